import java.util.ArrayList;
import java.util.HashSet;
import java.util.List;
import java.util.Set;

/**
 * The document once more, written another way: it keeps as little as it can, and finds the rest anew at each
 * question (who has a trunk, to which booking a wagon is promised, what stands where).
 */
public final class Model {
    private static final class Booking {
        int customer;
        int yard;
        int grain;
        int state;
        int halfAt;
        final List<Integer> wagons = new ArrayList<>();
    }

    private static final class Call {
        int customer;
        int yard;
        boolean over;
        Booking open;
        final List<String> trunks = new ArrayList<>();
    }

    private static final class Train {
        int to;
        List<Integer> wagons = new ArrayList<>();
    }

    private final List<List<Integer>> tracks = new ArrayList<>();
    private final List<Integer> grains = new ArrayList<>();
    private final Set<String> follows = new HashSet<>();
    private final Set<String> cuts = new HashSet<>();
    private final List<Call> calls = new ArrayList<>();
    private final List<Booking> bookings = new ArrayList<>();
    private final List<Train> trains = new ArrayList<>();
    private final int[] lines = {1, 1, 1};
    private int busy;
    private int ticks;

    public Model() {
        for (int i = 0; i < 15; i++) {
            tracks.add(new ArrayList<>());
        }
    }

    public int wagon(int yard, int track) {
        argument(in(yard, 3) && in(track, 5));
        state(grains.size() < 30 && track(yard, track).size() < 6);
        track(yard, track).add(grains.size());
        grains.add(-1);
        return grains.size() - 1;
    }

    public int shunt(int yard, int from, int to, int many) {
        argument(in(yard, 3) && in(from, 5) && in(to, 5) && in(many - 1, 6) && from != to);
        List<Integer> source = track(yard, from);
        List<Integer> target = track(yard, to);
        state(source.size() >= many && target.size() + many <= 6);
        List<Integer> moved = source.subList(source.size() - many, source.size());
        target.addAll(moved);
        moved.clear();
        return target.size();
    }

    public int wash(int yard) {
        argument(in(yard, 3));
        List<Integer> track = track(yard, 0);
        state(!track.isEmpty());
        return grains.set(track.get(track.size() - 1), -1);
    }

    public boolean follow(int first, int next) {
        argument(in(first, 4) && in(next, 4) && first != next);
        String pair = first + ">" + next;
        return follows.remove(pair) ? false : follows.add(pair);
    }

    public int on(int yard, int track) {
        argument(in(yard, 3) && in(track, 5));
        return track(yard, track).size();
    }

    public int at(int yard, int track, int place) {
        argument(in(yard, 3) && in(track, 5));
        index(in(place, track(yard, track).size()));
        return track(yard, track).get(place);
    }

    public int atByReplay(int yard, int track, int place) {
        return at(yard, track, place);
    }

    public int where(int wagon) {
        index(in(wagon, grains.size()));
        for (int yard = 0; yard < 3; yard++) {
            for (int track = 0; track < 5; track++) {
                if (track(yard, track).contains(wagon)) {
                    return 10 * yard + track;
                }
            }
        }
        return -1;
    }

    public int carried(int wagon) {
        index(in(wagon, grains.size()));
        return grains.get(wagon);
    }

    public int promised(int wagon) {
        index(in(wagon, grains.size()));
        for (int b = 0; b < bookings.size(); b++) {
            if (bookings.get(b).state < 4 && bookings.get(b).wagons.contains(wagon)) {
                return b;
            }
        }
        return -1;
    }

    public int call(int customer, int yard) {
        argument(in(customer, 6) && in(yard, 3));
        state(callOf(customer) == -1 && calls.size() < 60);
        Call call = new Call();
        call.customer = customer;
        call.yard = yard;
        if (callsTo(yard) >= lines[yard] || !findWay(call, customer % 3, yard)) {
            busy++;
            return -1;
        }
        calls.add(call);
        return calls.size() - 1;
    }

    private boolean findWay(Call call, int home, int yard) {
        if (home == yard) {
            return true;
        }
        String direct = lowestFree(home, yard);
        if (direct != null) {
            return call.trunks.add(direct);
        }
        int third = 0;
        while (third == home || third == yard) {
            third++;
        }
        String first = lowestFree(home, third);
        String second = lowestFree(third, yard);
        return first != null && second != null && call.trunks.add(first) && call.trunks.add(second);
    }

    private String lowestFree(int one, int other) {
        for (int trunk = 0; trunk < 2; trunk++) {
            if (trunk(one, other, trunk) == -1) {
                return name(one, other, trunk);
            }
        }
        return null;
    }

    public int ask(int call, int grain) {
        index(in(call, calls.size()));
        argument(in(grain, 4));
        Call c = calls.get(call);
        state(!c.over);
        state(c.open == null ? bookings.size() < 40 : c.open.grain == grain);
        int best = -1;
        int fewest = 99;
        for (int track = 0; track < 5; track++) {
            List<Integer> row = track(c.yard, track);
            for (int place = 0; place < row.size(); place++) {
                int before = row.size() - 1 - place;
                int wagon = row.get(place);
                if (before < fewest && promised(wagon) == -1 && fits(wagon, grain)) {
                    best = wagon;
                    fewest = before;
                }
            }
        }
        if (best != -1) {
            if (c.open == null) {
                c.open = new Booking();
                c.open.customer = c.customer;
                c.open.yard = c.yard;
                c.open.grain = grain;
                bookings.add(c.open);
            }
            c.open.wagons.add(best);
        }
        return best;
    }

    private boolean fits(int wagon, int grain) {
        int last = grains.get(wagon);
        return last == -1 || last == grain || follows.contains(last + ">" + grain);
    }

    public int confirm(int call) {
        index(in(call, calls.size()));
        Call c = calls.get(call);
        state(!c.over && c.open != null);
        Booking booking = c.open;
        booking.state = 2;
        c.open = null;
        return bookings.indexOf(booking);
    }

    public int resume(int call, int booking) {
        index(in(call, calls.size()) && in(booking, bookings.size()));
        Call c = calls.get(call);
        Booking b = bookings.get(booking);
        state(!c.over && c.open == null && b.state == 1 && b.customer == c.customer && b.yard == c.yard);
        b.state = 0;
        c.open = b;
        return b.wagons.size();
    }

    public int cancel(int call, int booking) {
        index(in(call, calls.size()) && in(booking, bookings.size()));
        Call c = calls.get(call);
        Booking b = bookings.get(booking);
        state(!c.over && b.state == 2 && b.customer == c.customer && b.yard == c.yard);
        b.state = 5;
        return b.wagons.size();
    }

    public int hangUp(int call) {
        index(in(call, calls.size()));
        Call c = calls.get(call);
        state(!c.over);
        c.over = true;
        if (c.open == null) {
            return 0;
        }
        c.open.state = 5;
        return c.open.wagons.size();
    }

    public int callOf(int customer) {
        argument(in(customer, 6));
        for (int call = 0; call < calls.size(); call++) {
            if (!calls.get(call).over && calls.get(call).customer == customer) {
                return call;
            }
        }
        return -1;
    }

    public int way(int call) {
        index(in(call, calls.size()));
        state(!calls.get(call).over);
        return calls.get(call).trunks.size();
    }

    public int busy() {
        return busy;
    }

    public int cut(int one, int other, int trunk) {
        int call = trunk(one, other, trunk);
        state(call != -2);
        if (call != -1) {
            Call c = calls.get(call);
            c.over = true;
            if (c.open != null) {
                c.open.state = 1;
                c.open.halfAt = ticks;
            }
        }
        cuts.add(name(one, other, trunk));
        return call;
    }

    public void mend(int one, int other, int trunk) {
        state(trunk(one, other, trunk) == -2);
        cuts.remove(name(one, other, trunk));
    }

    public int trunk(int one, int other, int trunk) {
        argument(in(one, 3) && in(other, 3) && in(trunk, 2) && one != other);
        for (int call = 0; call < calls.size(); call++) {
            if (!calls.get(call).over && calls.get(call).trunks.contains(name(one, other, trunk))) {
                return call;
            }
        }
        return cuts.contains(name(one, other, trunk)) ? -2 : -1;
    }

    public int setLines(int yard, int many) {
        argument(in(yard, 3) && in(many, 4));
        state(callsTo(yard) <= many);
        int before = lines[yard];
        lines[yard] = many;
        return before;
    }

    public int pass(int many) {
        argument(in(many - 1, 100));
        state(ticks + many <= 10000);
        int lapsed = 0;
        for (int tick = 0; tick < many; tick++) {
            ticks++;
            for (Booking b : bookings) {
                if (b.state == 1 && ticks - b.halfAt == 10) {
                    b.state = 5;
                    lapsed++;
                }
            }
        }
        return lapsed;
    }

    public int bookings() {
        return bookings.size();
    }

    public int state(int booking) {
        index(in(booking, bookings.size()));
        return bookings.get(booking).state;
    }

    public int wagons(int booking) {
        index(in(booking, bookings.size()));
        return bookings.get(booking).wagons.size();
    }

    public int wagonOf(int booking, int place) {
        index(in(booking, bookings.size()) && in(place, bookings.get(booking).wagons.size()));
        return bookings.get(booking).wagons.get(place);
    }

    public int lapses(int booking) {
        index(in(booking, bookings.size()));
        state(bookings.get(booking).state == 1);
        return 10 - (ticks - bookings.get(booking).halfAt);
    }

    public int depart(int yard, int track, int to) {
        argument(in(yard, 3) && in(track, 5) && in(to, 3) && yard != to);
        List<Integer> row = track(yard, track);
        state(!row.isEmpty());
        for (int wagon : row) {
            int booking = promised(wagon);
            state(booking != -1);
            state(bookings.get(booking).state == 2 && row.containsAll(bookings.get(booking).wagons));
        }
        Train train = new Train();
        train.to = to;
        for (int wagon : row) {
            Booking booking = bookings.get(promised(wagon));
            grains.set(wagon, booking.grain);
            booking.state = 3;
        }
        train.wagons.addAll(row);
        row.clear();
        trains.add(train);
        return trains.size() - 1;
    }

    public int arrive(int train, int track) {
        index(in(train, trains.size()));
        argument(in(track, 5));
        Train t = trains.get(train);
        List<Integer> row = track(t.to, track);
        state(t.wagons != null);
        state(row.size() + t.wagons.size() <= 6);
        row.addAll(t.wagons);
        for (Booking b : bookings) {
            if (b.state == 3 && t.wagons.containsAll(b.wagons)) {
                b.state = 4;
            }
        }
        t.wagons = null;
        return row.size();
    }

    public int trains() {
        return trains.size();
    }

    int customerOf(int booking) {
        return bookings.get(booking).customer;
    }

    int yardOf(int booking) {
        return bookings.get(booking).yard;
    }

    private int callsTo(int yard) {
        int many = 0;
        for (Call call : calls) {
            many += !call.over && call.yard == yard ? 1 : 0;
        }
        return many;
    }

    private List<Integer> track(int yard, int track) {
        return tracks.get(yard * 5 + track);
    }

    private static String name(int one, int other, int trunk) {
        return Math.min(one, other) + "-" + Math.max(one, other) + "/" + trunk;
    }

    private static boolean in(int number, int end) {
        return number >= 0 && number < end;
    }

    private static void argument(boolean right) {
        if (!right) {
            throw new IllegalArgumentException();
        }
    }

    private static void state(boolean right) {
        if (!right) {
            throw new IllegalStateException();
        }
    }

    private static void index(boolean right) {
        if (!right) {
            throw new IndexOutOfBoundsException();
        }
    }
}
