/** What the document bounds: 30 wagons, 60 calls, 40 bookings, and no wagon promised twice. */
final class LimitTests {
    private LimitTests() {
    }

    static void promise02_thereAreThirtyWagons() {
        Scene s = new Scene();
        for (int wagon = 0; wagon < 30; wagon++) {
            int track = wagon / 6;
            s.due(wagon, x -> x.wagon(0, track));
        }
        s.refused(Scene.STATE, x -> x.wagon(1, 0)).refused(Scene.ARGUMENT, x -> x.wagon(3, 0));
        s.due(4, x -> x.where(29)).refused(Scene.INDEX, x -> x.where(30));
    }

    static void promise13_oneBookingMayHaveAllWagons() {
        Scene s = new Scene();
        for (int wagon = 0; wagon < 30; wagon++) {
            int track = wagon / 6;
            s.due(wagon, x -> x.wagon(2, track));
        }
        s.due(0, x -> x.call(2, 2));
        for (int place = 0; place < 30; place++) {
            int wagon = place % 5 * 6 + 5 - place / 5;
            int p = place;
            s.due(wagon, x -> x.ask(0, 1)).due(wagon, x -> x.wagonOf(0, p));
        }
        s.due(-1, x -> x.ask(0, 1)).due(30, x -> x.wagons(0)).refused(Scene.INDEX, x -> x.wagonOf(0, 30));
        s.due(0, x -> x.confirm(0)).refused(Scene.STATE, x -> x.depart(2, 0, 1)).due(30, x -> x.cancel(0, 0));
    }

    static void promise12_thereAreSixtyCalls() {
        Scene s = new Scene().due(0, x -> x.call(0, 0)).due(-1, x -> x.call(3, 0));
        for (int call = 1; call < 60; call++) {
            int before = call - 1;
            s.due(0, x -> x.hangUp(before)).due(call, x -> x.call(0, 0));
        }
        s.refused(Scene.STATE, x -> x.call(3, 0)).refused(Scene.STATE, x -> x.call(3, 1));
        s.refused(Scene.ARGUMENT, x -> x.call(6, 1)).due(1, x -> x.busy()).due(59, x -> x.callOf(0));
        s.refused(Scene.INDEX, x -> x.way(60));
    }

    static void promise13_thereAreFortyBookings() {
        Scene s = new Scene().due(0, x -> x.wagon(0, 0)).due(1, x -> x.wagon(0, 0)).due(0, x -> x.call(0, 0));
        for (int booking = 0; booking < 39; booking++) {
            int b = booking;
            s.due(1, x -> x.ask(0, 0)).due(b, x -> x.confirm(0)).due(1, x -> x.cancel(0, b));
        }
        s.due(1, x -> x.ask(0, 0)).due(0, x -> x.ask(0, 0)).due(-1, x -> x.ask(0, 0)).due(40, x -> x.bookings());
        s.due(39, x -> x.confirm(0)).refused(Scene.STATE, x -> x.ask(0, 0)).due(2, x -> x.cancel(0, 39));
        s.refused(Scene.STATE, x -> x.ask(0, 0)).refused(Scene.ARGUMENT, x -> x.ask(0, 4));
        s.refused(Scene.INDEX, x -> x.state(40));
    }

    static void promise31_thereAreAsManyTrainsAsBookings() {
        Scene s = new Scene().due(0, x -> x.wagon(0, 0));
        for (int train = 0; train < 40; train++) {
            int t = train;
            int yard = t % 3;
            int to = (t + 1) % 3;
            s.due(t, x -> x.call(yard, yard)).due(0, x -> x.ask(t, 0)).due(t, x -> x.confirm(t))
                .due(0, x -> x.hangUp(t));
            s.due(t, x -> x.depart(yard, 0, to)).due(1, x -> x.arrive(t, 0));
        }
        s.due(40, x -> x.trains()).due(10, x -> x.where(0)).due(0, x -> x.atByReplay(1, 0, 0));
    }

    static void promise08_replaysAllThatTheCallsCanDo() {
        Scene s = new Scene().due(0, x -> x.wagon(0, 0));
        for (int i = 0; i < 510; i++) {
            int from = i % 5;
            int to = (i + 1) % 5;
            s.due(1, x -> x.shunt(0, from, to, 1));
        }
        s.due(0, x -> x.atByReplay(0, 0, 0));
    }

    /** What is answered behind the 512th call is free, but the machine may not throw there either. */
    static void allCallsBehindTheLastPromisedOneAreCalm() {
        TrunkYards x = new TrunkYards();
        x.wagon(0, 0);
        for (int i = 0; i < 2000; i++) {
            try {
                x.shunt(0, i % 5, (i + 1) % 5, 1);
                x.atByReplay(0, i % 5, 0);
            } catch (IndexOutOfBoundsException e) {
                if (e instanceof ArrayIndexOutOfBoundsException) {
                    throw new AssertionError("the machine threw", e);
                }
            }
        }
    }
}
