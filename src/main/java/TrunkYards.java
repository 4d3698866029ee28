import java.util.Arrays;

/**
 * Grain yards and a phone exchange; ../shared/DOC.md says what each call does.
 *
 * Callers' numbers are looked at ahead of all else, and limits before anything is added. So what the classes inside
 * hold and are given is in range, and they use it as it is.
 */
public final class TrunkYards {
    private static final int NONE = -1;
    private static final int CUT = -2;

    private static final int YARDS = 3;
    private static final int TRACKS = 5;
    private static final int ROOM = 6;
    private static final int WAGONS = 30;
    private static final int GRAINS = 4;
    private static final int EXCHANGES = 3;
    private static final int EXCHANGE_SUM = 3;
    private static final int PAIRS = 3;
    private static final int TRUNKS = 2;
    private static final int CUSTOMERS = 6;
    private static final int CALLS = 60;
    private static final int MOST_LINES = 3;
    private static final int BOOKINGS = 40;
    private static final int MOST_TICKS = 100;
    private static final int TICKS_EVER = 10000;
    private static final int HALF_TICKS = 10;
    private static final int USES = 512;

    // A train takes at least one booking along, and no booking goes twice.
    private static final int TRAINS = BOOKINGS;
    private static final int TRACK_ROWS = YARDS * TRACKS;
    private static final int ROWS = TRACK_ROWS + TRAINS;

    private static final int OPEN = 0;
    private static final int HALF = 1;
    private static final int FIRM = 2;
    private static final int UNDER_WAY = 3;
    private static final int DONE = 4;
    private static final int VOID = 5;

    private final Rows rows;
    private final Rows replayed;
    private final History history;
    private final Ledger ledger;
    private final Switchboard board;
    private final int[] lastGrain;
    private final boolean[] mayFollow;
    private final int[] destination;
    private int placed;
    private int departed;
    private int busyCalls;
    private int now;

    public TrunkYards() {
        rows = new Rows();
        replayed = new Rows();
        history = new History();
        ledger = new Ledger();
        board = new Switchboard();
        lastGrain = new int[WAGONS];
        Arrays.fill(lastGrain, NONE);
        mayFollow = new boolean[GRAINS * GRAINS];
        destination = new int[TRAINS];
    }

    // ---- yards

    public int wagon(int yard, int track) throws IllegalArgumentException, IllegalStateException {
        requireTrack(yard, track);
        int row = rowOf(yard, track);
        if (placed >= WAGONS || !rows.hasRoom(row, 1)) {
            throw new IllegalStateException("no wagon or no room is left");
        }
        int wagon = placed;
        placed++;
        rows.put(row, wagon);
        history.notePlacing(row, wagon);
        return wagon;
    }

    public int shunt(int yard, int from, int to, int many)
            throws IllegalArgumentException, IllegalStateException {
        requireTrack(yard, from);
        requireTrack(yard, to);
        if (from == to || many < 1 || many > ROOM) {
            throw new IllegalArgumentException("the tracks are the same, or many is out of range");
        }
        int source = rowOf(yard, from);
        int target = rowOf(yard, to);
        if (many > rows.count(source) || !rows.hasRoom(target, many)) {
            throw new IllegalStateException("not so many wagons, or not so much room");
        }
        moveLast(source, target, many);
        return rows.count(target);
    }

    public int wash(int yard) throws IllegalArgumentException, IllegalStateException {
        requireYard(yard);
        int row = rowOf(yard, 0);
        int count = rows.count(row);
        if (count == 0) {
            throw new IllegalStateException("there is no wagon");
        }
        int wagon = rows.get(row, count - 1);
        int grain = lastGrain[wagon];
        lastGrain[wagon] = NONE;
        return grain;
    }

    public boolean follow(int first, int next) throws IllegalArgumentException {
        if (!isGrain(first) || !isGrain(next) || first == next) {
            throw new IllegalArgumentException("a grain is out of range, or both are the same");
        }
        int pair = first * GRAINS + next;
        mayFollow[pair] = !mayFollow[pair];
        return mayFollow[pair];
    }

    public int on(int yard, int track) throws IllegalArgumentException {
        requireTrack(yard, track);
        return rows.count(rowOf(yard, track));
    }

    public int at(int yard, int track, int place)
            throws IllegalArgumentException, IndexOutOfBoundsException {
        requireTrack(yard, track);
        return wagonIn(rows, rowOf(yard, track), place);
    }

    public int atByReplay(int yard, int track, int place)
            throws IllegalArgumentException, IndexOutOfBoundsException {
        requireTrack(yard, track);
        history.replay(replayed);
        return wagonIn(replayed, rowOf(yard, track), place);
    }

    public int where(int wagon) throws IndexOutOfBoundsException {
        requireWagon(wagon);
        int row = rows.findOnTracks(wagon);
        return row == NONE ? NONE : row / TRACKS * 10 + row % TRACKS;
    }

    public int carried(int wagon) throws IndexOutOfBoundsException {
        requireWagon(wagon);
        return lastGrain[wagon];
    }

    public int promised(int wagon) throws IndexOutOfBoundsException {
        requireWagon(wagon);
        return ledger.bookingFor(wagon);
    }

    // ---- calls

    public int call(int customer, int yard) throws IllegalArgumentException, IllegalStateException {
        requireCustomer(customer);
        requireYard(yard);
        if (board.ongoing(customer) != NONE || board.isFull()) {
            throw new IllegalStateException("the customer has a call, or there were too many");
        }
        int begun = board.begin(customer, yard);
        if (begun == NONE) {
            busyCalls++;
        }
        return begun;
    }

    public int ask(int call, int grain)
            throws IndexOutOfBoundsException, IllegalArgumentException, IllegalStateException {
        requireCall(call);
        if (!isGrain(grain)) {
            throw new IllegalArgumentException("grain is out of range");
        }
        requireOngoing(call);
        int booking = board.openBooking(call);
        if (booking == NONE ? ledger.isFull() : ledger.grain(booking) != grain) {
            throw new IllegalStateException("another grain, or too many bookings");
        }
        int wagon = findWagon(board.yard(call), grain);
        if (wagon == NONE) {
            return NONE;
        }
        if (booking == NONE) {
            booking = ledger.open(board.customer(call), board.yard(call), grain);
            board.setOpenBooking(call, booking);
        }
        ledger.add(booking, wagon);
        return wagon;
    }

    public int confirm(int call) throws IndexOutOfBoundsException, IllegalStateException {
        requireCall(call);
        requireOngoing(call);
        int booking = board.openBooking(call);
        if (booking == NONE) {
            throw new IllegalStateException("no booking is open");
        }
        ledger.keep(booking, FIRM);
        board.setOpenBooking(call, NONE);
        return booking;
    }

    public int resume(int call, int booking) throws IndexOutOfBoundsException, IllegalStateException {
        requireCall(call);
        requireBooking(booking);
        requireOngoing(call);
        if (board.openBooking(call) != NONE || !isWithin(call, booking, HALF)) {
            throw new IllegalStateException("the booking can't be taken up in this call");
        }
        ledger.keep(booking, OPEN);
        board.setOpenBooking(call, booking);
        return ledger.size(booking);
    }

    public int cancel(int call, int booking) throws IndexOutOfBoundsException, IllegalStateException {
        requireCall(call);
        requireBooking(booking);
        requireOngoing(call);
        if (!isWithin(call, booking, FIRM)) {
            throw new IllegalStateException("the booking can't be cancelled in this call");
        }
        ledger.release(booking, VOID);
        return ledger.size(booking);
    }

    public int hangUp(int call) throws IndexOutOfBoundsException, IllegalStateException {
        requireCall(call);
        requireOngoing(call);
        int booking = board.openBooking(call);
        board.end(call);
        if (booking == NONE) {
            return 0;
        }
        ledger.release(booking, VOID);
        return ledger.size(booking);
    }

    public int callOf(int customer) throws IllegalArgumentException {
        requireCustomer(customer);
        return board.ongoing(customer);
    }

    public int way(int call) throws IndexOutOfBoundsException, IllegalStateException {
        requireCall(call);
        requireOngoing(call);
        return board.trunksOf(call);
    }

    public int busy() {
        return busyCalls;
    }

    // ---- trunks, lines, time

    public int cut(int one, int other, int trunk) throws IllegalArgumentException, IllegalStateException {
        requireTrunk(one, other, trunk);
        int slot = slotOf(one, other, trunk);
        int call = board.trunkHas(slot);
        if (call == CUT) {
            throw new IllegalStateException("the trunk is cut");
        }
        if (call != NONE) {
            cutOff(call);
        }
        board.setTrunk(slot, CUT);
        return call;
    }

    public void mend(int one, int other, int trunk) throws IllegalArgumentException, IllegalStateException {
        requireTrunk(one, other, trunk);
        int slot = slotOf(one, other, trunk);
        if (board.trunkHas(slot) != CUT) {
            throw new IllegalStateException("the trunk is not cut");
        }
        board.setTrunk(slot, NONE);
    }

    public int trunk(int one, int other, int trunk) throws IllegalArgumentException {
        requireTrunk(one, other, trunk);
        return board.trunkHas(slotOf(one, other, trunk));
    }

    public int setLines(int yard, int lines) throws IllegalArgumentException, IllegalStateException {
        requireYard(yard);
        if (lines < 0 || lines > MOST_LINES) {
            throw new IllegalArgumentException("lines is out of range");
        }
        if (board.callsTo(yard) > lines) {
            throw new IllegalStateException("more calls to the yard go on");
        }
        return board.changeLines(yard, lines);
    }

    public int pass(int ticks) throws IllegalArgumentException, IllegalStateException {
        if (ticks < 1 || ticks > MOST_TICKS) {
            throw new IllegalArgumentException("ticks is out of range");
        }
        if (now + ticks > TICKS_EVER) {
            throw new IllegalStateException("too many ticks would have gone by");
        }
        now += ticks;
        return ledger.lapseAll(now);
    }

    // ---- bookings

    public int bookings() {
        return ledger.opened();
    }

    public int state(int booking) throws IndexOutOfBoundsException {
        requireBooking(booking);
        return ledger.standing(booking);
    }

    public int wagons(int booking) throws IndexOutOfBoundsException {
        requireBooking(booking);
        return ledger.size(booking);
    }

    public int wagonOf(int booking, int place) throws IndexOutOfBoundsException {
        requireBooking(booking);
        if (place < 0 || place >= ledger.size(booking)) {
            throw new IndexOutOfBoundsException("the booking has no such wagon");
        }
        return ledger.get(booking, place);
    }

    public int lapses(int booking) throws IndexOutOfBoundsException, IllegalStateException {
        requireBooking(booking);
        if (ledger.standing(booking) != HALF) {
            throw new IllegalStateException("the booking is not half");
        }
        return ledger.lapseTick(booking) - now;
    }

    // ---- trains

    public int depart(int yard, int track, int to) throws IllegalArgumentException, IllegalStateException {
        requireTrack(yard, track);
        requireYard(to);
        if (yard == to) {
            throw new IllegalArgumentException("both yards are the same");
        }
        int row = rowOf(yard, track);
        if (departed >= TRAINS || !canDepart(row)) {
            throw new IllegalStateException("no train can depart from the track");
        }
        int train = departed;
        departed++;
        destination[train] = to;
        load(row);
        moveLast(row, TRACK_ROWS + train, rows.count(row));
        return train;
    }

    public int arrive(int train, int track)
            throws IndexOutOfBoundsException, IllegalArgumentException, IllegalStateException {
        if (train < 0 || train >= departed) {
            throw new IndexOutOfBoundsException("there never was such a train");
        }
        if (!isTrack(track)) {
            throw new IllegalArgumentException("track is out of range");
        }
        int trainRow = TRACK_ROWS + train;
        int row = rowOf(destination[train], track);
        int many = rows.count(trainRow);
        // No train departs without wagons, so an empty one has arrived.
        if (many == 0 || !rows.hasRoom(row, many)) {
            throw new IllegalStateException("the train has arrived, or the track has not enough room");
        }
        unload(trainRow);
        moveLast(trainRow, row, many);
        return rows.count(row);
    }

    public int trains() {
        return departed;
    }

    // ---- what the calls share

    private static boolean isYard(int yard) {
        return yard >= 0 && yard < YARDS;
    }

    private static boolean isTrack(int track) {
        return track >= 0 && track < TRACKS;
    }

    private static boolean isGrain(int grain) {
        return grain >= 0 && grain < GRAINS;
    }

    private static boolean isExchange(int exchange) {
        return exchange >= 0 && exchange < EXCHANGES;
    }

    private static void requireYard(int yard) {
        if (!isYard(yard)) {
            throw new IllegalArgumentException("yard is out of range");
        }
    }

    private static void requireTrack(int yard, int track) {
        if (!isYard(yard) || !isTrack(track)) {
            throw new IllegalArgumentException("yard or track is out of range");
        }
    }

    private static void requireCustomer(int customer) {
        if (customer < 0 || customer >= CUSTOMERS) {
            throw new IllegalArgumentException("customer is out of range");
        }
    }

    private static void requireTrunk(int one, int other, int trunk) {
        if (!isExchange(one) || !isExchange(other) || one == other || trunk < 0 || trunk >= TRUNKS) {
            throw new IllegalArgumentException("there is no such trunk");
        }
    }

    private void requireWagon(int wagon) {
        if (wagon < 0 || wagon >= placed) {
            throw new IndexOutOfBoundsException("there is no such wagon");
        }
    }

    private void requireCall(int call) {
        if (!board.hasBegun(call)) {
            throw new IndexOutOfBoundsException("there never was such a call");
        }
    }

    private void requireOngoing(int call) {
        if (!board.goesOn(call)) {
            throw new IllegalStateException("the call does not go on");
        }
    }

    private void requireBooking(int booking) {
        if (booking < 0 || booking >= ledger.opened()) {
            throw new IndexOutOfBoundsException("there never was such a booking");
        }
    }

    private static int rowOf(int yard, int track) {
        return yard * TRACKS + track;
    }

    /** Both orders of two unlike exchanges name the same trunk; their sum tells the pair. */
    private static int slotOf(int one, int other, int trunk) {
        return (one + other - 1) * TRUNKS + trunk;
    }

    private static int wagonIn(Rows standing, int row, int place) {
        if (place < 0 || place >= standing.count(row)) {
            throw new IndexOutOfBoundsException("there is no wagon at place");
        }
        return standing.get(row, place);
    }

    private void moveLast(int from, int to, int many) {
        rows.move(from, to, many);
        history.noteMove(from, to, many);
    }

    private boolean fits(int wagon, int grain) {
        int last = lastGrain[wagon];
        return last == NONE || last == grain || mayFollow[last * GRAINS + grain];
    }

    private int findWagon(int yard, int grain) {
        for (int before = 0; before < ROOM; before++) {
            for (int track = 0; track < TRACKS; track++) {
                int row = rowOf(yard, track);
                int place = rows.count(row) - 1 - before;
                if (place >= 0) {
                    int wagon = rows.get(row, place);
                    if (ledger.bookingFor(wagon) == NONE && fits(wagon, grain)) {
                        return wagon;
                    }
                }
            }
        }
        return NONE;
    }

    /** Whether a booking has this standing, and is of the customer and the yard of a call. */
    private boolean isWithin(int call, int booking, int standing) {
        return ledger.standing(booking) == standing
                && ledger.customer(booking) == board.customer(call)
                && ledger.yard(booking) == board.yard(call);
    }

    private void cutOff(int call) {
        int booking = board.openBooking(call);
        board.end(call);
        if (booking != NONE) {
            ledger.halve(booking, now);
        }
    }

    private boolean canDepart(int row) {
        int count = rows.count(row);
        for (int place = 0; place < count; place++) {
            int booking = ledger.bookingFor(rows.get(row, place));
            if (booking == NONE || ledger.standing(booking) != FIRM || !standsWhole(booking, row)) {
                return false;
            }
        }
        return count > 0;
    }

    private boolean standsWhole(int booking, int row) {
        int found = 0;
        for (int place = 0; place < rows.count(row); place++) {
            if (ledger.bookingFor(rows.get(row, place)) == booking) {
                found++;
            }
        }
        return found == ledger.size(booking);
    }

    private void load(int row) {
        for (int place = 0; place < rows.count(row); place++) {
            int wagon = rows.get(row, place);
            int booking = ledger.bookingFor(wagon);
            if (booking != NONE) {
                lastGrain[wagon] = ledger.grain(booking);
                ledger.keep(booking, UNDER_WAY);
            }
        }
    }

    private void unload(int row) {
        for (int place = 0; place < rows.count(row); place++) {
            int booking = ledger.bookingFor(rows.get(row, place));
            // The first wagon of a booking releases all of them.
            if (booking != NONE) {
                ledger.release(booking, DONE);
            }
        }
    }

    /** Rows of wagons, each with room for a track's: first those of the tracks, then those of the trains. */
    private static final class Rows {
        private final int[] counts = new int[ROWS];
        private final int[] standing = new int[ROWS * ROOM];

        int count(int row) {
            return counts[row];
        }

        int get(int row, int place) {
            return standing[row * ROOM + place];
        }

        boolean hasRoom(int row, int many) {
            return counts[row] + many <= ROOM;
        }

        void put(int row, int wagon) {
            standing[row * ROOM + counts[row]] = wagon;
            counts[row]++;
        }

        void move(int from, int to, int many) {
            int source = from * ROOM + counts[from] - many;
            int target = to * ROOM + counts[to];
            for (int i = 0; i < many; i++) {
                standing[target + i] = standing[source + i];
            }
            counts[from] -= many;
            counts[to] += many;
        }

        int findOnTracks(int wagon) {
            for (int row = 0; row < TRACK_ROWS; row++) {
                for (int place = 0; place < counts[row]; place++) {
                    if (get(row, place) == wagon) {
                        return row;
                    }
                }
            }
            return NONE;
        }

        void clear() {
            Arrays.fill(counts, 0);
        }
    }

    /** All that moved wagons, from first to last: a placing comes from no row, and tells its wagon as many. */
    private static final class History {
        private final int[] from = new int[USES];
        private final int[] to = new int[USES];
        private final int[] many = new int[USES];
        private int noted;

        void notePlacing(int row, int wagon) {
            noteMove(NONE, row, wagon);
        }

        void noteMove(int source, int target, int count) {
            // Past the last use that the document promises, what is answered is free.
            if (noted < USES) {
                from[noted] = source;
                to[noted] = target;
                many[noted] = count;
                noted++;
            }
        }

        void replay(Rows rows) {
            rows.clear();
            for (int i = 0; i < noted; i++) {
                if (from[i] == NONE) {
                    rows.put(to[i], many[i]);
                } else {
                    rows.move(from[i], to[i], many[i]);
                }
            }
        }
    }

    /** The bookings, and to which of them each wagon is promised. */
    private static final class Ledger {
        private final int[] customers = new int[BOOKINGS];
        private final int[] yards = new int[BOOKINGS];
        private final int[] grains = new int[BOOKINGS];
        private final int[] standings = new int[BOOKINGS];
        private final int[] lapseTicks = new int[BOOKINGS];
        private final int[] sizes = new int[BOOKINGS];
        private final int[] booked = new int[BOOKINGS * WAGONS];
        private final int[] bookingOfWagon = new int[WAGONS];
        private int count;

        Ledger() {
            Arrays.fill(bookingOfWagon, NONE);
        }

        int opened() {
            return count;
        }

        boolean isFull() {
            return count >= BOOKINGS;
        }

        int customer(int booking) {
            return customers[booking];
        }

        int yard(int booking) {
            return yards[booking];
        }

        int grain(int booking) {
            return grains[booking];
        }

        int standing(int booking) {
            return standings[booking];
        }

        int lapseTick(int booking) {
            return lapseTicks[booking];
        }

        int size(int booking) {
            return sizes[booking];
        }

        int get(int booking, int place) {
            return booked[booking * WAGONS + place];
        }

        int bookingFor(int wagon) {
            return bookingOfWagon[wagon];
        }

        int open(int customer, int yard, int grain) {
            int booking = count;
            count++;
            customers[booking] = customer;
            yards[booking] = yard;
            grains[booking] = grain;
            standings[booking] = OPEN;
            return booking;
        }

        void add(int booking, int wagon) {
            booked[booking * WAGONS + sizes[booking]] = wagon;
            sizes[booking]++;
            bookingOfWagon[wagon] = booking;
        }

        void keep(int booking, int standing) {
            standings[booking] = standing;
        }

        void halve(int booking, int tick) {
            standings[booking] = HALF;
            lapseTicks[booking] = tick + HALF_TICKS;
        }

        /** Its wagons stay in its list, as what it had. */
        void release(int booking, int standing) {
            standings[booking] = standing;
            for (int place = 0; place < sizes[booking]; place++) {
                bookingOfWagon[get(booking, place)] = NONE;
            }
        }

        int lapseAll(int tick) {
            int lapsed = 0;
            for (int booking = 0; booking < count; booking++) {
                if (standings[booking] == HALF && lapseTicks[booking] <= tick) {
                    release(booking, VOID);
                    lapsed++;
                }
            }
            return lapsed;
        }
    }

    /** The calls, the trunks that they have, and the lines of the yards. */
    private static final class Switchboard {
        private final int[] customers = new int[CALLS];
        private final int[] yards = new int[CALLS];
        private final int[] openBookings = new int[CALLS];
        private final int[] firstTrunks = new int[CALLS];
        private final int[] secondTrunks = new int[CALLS];
        private final int[] ongoingCalls = new int[CUSTOMERS];
        private final int[] trunks = new int[PAIRS * TRUNKS];
        private final int[] lineCounts = new int[YARDS];
        private int begun;

        Switchboard() {
            Arrays.fill(ongoingCalls, NONE);
            Arrays.fill(trunks, NONE);
            Arrays.fill(lineCounts, 1);
        }

        boolean hasBegun(int call) {
            return call >= 0 && call < begun;
        }

        boolean isFull() {
            return begun >= CALLS;
        }

        int ongoing(int customer) {
            return ongoingCalls[customer];
        }

        boolean goesOn(int call) {
            return ongoingCalls[customers[call]] == call;
        }

        int customer(int call) {
            return customers[call];
        }

        int yard(int call) {
            return yards[call];
        }

        int openBooking(int call) {
            return openBookings[call];
        }

        void setOpenBooking(int call, int booking) {
            openBookings[call] = booking;
        }

        int trunksOf(int call) {
            return (firstTrunks[call] == NONE ? 0 : 1) + (secondTrunks[call] == NONE ? 0 : 1);
        }

        int trunkHas(int slot) {
            return trunks[slot];
        }

        void setTrunk(int slot, int what) {
            trunks[slot] = what;
        }

        int callsTo(int yard) {
            int calls = 0;
            for (int customer = 0; customer < CUSTOMERS; customer++) {
                int call = ongoingCalls[customer];
                if (call != NONE && yards[call] == yard) {
                    calls++;
                }
            }
            return calls;
        }

        int changeLines(int yard, int lines) {
            int before = lineCounts[yard];
            lineCounts[yard] = lines;
            return before;
        }

        /** Answers the new call, or NONE if a line or a way is missing. */
        int begin(int customer, int yard) {
            if (callsTo(yard) >= lineCounts[yard]) {
                return NONE;
            }
            int home = customer % EXCHANGES;
            if (home == yard) {
                return connect(customer, yard, NONE, NONE);
            }
            int direct = freeTrunk(home, yard);
            if (direct != NONE) {
                return connect(customer, yard, direct, NONE);
            }
            int third = EXCHANGE_SUM - home - yard;
            int first = freeTrunk(home, third);
            int second = freeTrunk(third, yard);
            if (first == NONE || second == NONE) {
                return NONE;
            }
            return connect(customer, yard, first, second);
        }

        void end(int call) {
            ongoingCalls[customers[call]] = NONE;
            occupy(firstTrunks[call], NONE);
            occupy(secondTrunks[call], NONE);
        }

        private int connect(int customer, int yard, int first, int second) {
            int call = begun;
            begun++;
            customers[call] = customer;
            yards[call] = yard;
            openBookings[call] = NONE;
            firstTrunks[call] = first;
            secondTrunks[call] = second;
            ongoingCalls[customer] = call;
            occupy(first, call);
            occupy(second, call);
            return call;
        }

        private void occupy(int slot, int what) {
            if (slot != NONE) {
                trunks[slot] = what;
            }
        }

        private int freeTrunk(int one, int other) {
            for (int trunk = 0; trunk < TRUNKS; trunk++) {
                int slot = slotOf(one, other, trunk);
                if (trunks[slot] == NONE) {
                    return slot;
                }
            }
            return NONE;
        }
    }
}
