/** Promises 26 to 30. */
final class BookingTests {
    private BookingTests() {
    }

    private static Scene twoBookings() {
        return new Scene()
            .due(0, x -> x.wagon(0, 0)).due(1, x -> x.wagon(0, 0)).due(2, x -> x.wagon(0, 1)).due(0, x -> x.call(1, 0))
            .due(1, x -> x.ask(0, 2)).due(2, x -> x.ask(0, 2)).due(0, x -> x.confirm(0)).due(0, x -> x.ask(0, 3));
    }

    private interface OnBooking {
        long on(TrunkYards x, int booking);
    }

    private static void refusesWrongBookings(Scene s, int opened, OnBooking call) {
        s.refused(Scene.INDEX, x -> call.on(x, -1)).refused(Scene.INDEX, x -> call.on(x, opened));
        for (int far : Scene.FAR) {
            s.refused(Scene.INDEX, x -> call.on(x, far));
        }
    }

    static void promise26_countsBookings() {
        new Scene().due(0, x -> x.bookings()).due(0, x -> x.call(0, 0)).due(-1, x -> x.ask(0, 0))
            .due(0, x -> x.bookings());
        twoBookings().due(2, x -> x.bookings()).due(1, x -> x.hangUp(0)).due(2, x -> x.bookings());
    }

    static void promise27_tellsTheState() {
        Scene s = twoBookings().due(2, x -> x.state(0)).due(0, x -> x.state(1))
            .due(0, x -> x.cut(0, 1, 0)).due(2, x -> x.state(0)).due(1, x -> x.state(1))
            .due(2, x -> x.shunt(0, 0, 1, 1)).due(0, x -> x.depart(0, 1, 2)).due(3, x -> x.state(0))
            .due(2, x -> x.arrive(0, 4)).due(4, x -> x.state(0))
            .due(1, x -> x.pass(100)).due(5, x -> x.state(1)).due(4, x -> x.state(0));
        refusesWrongBookings(s, 2, (x, booking) -> x.state(booking));
    }

    static void promise28_countsWagonsHadToo() {
        Scene s = twoBookings().due(2, x -> x.wagons(0)).due(1, x -> x.wagons(1))
            .due(2, x -> x.cancel(0, 0)).due(2, x -> x.wagons(0))
            .due(1, x -> x.hangUp(0)).due(1, x -> x.wagons(1));
        refusesWrongBookings(s, 2, (x, booking) -> x.wagons(booking));
    }

    static void promise28_countsWagonsOfADoneBooking() {
        twoBookings().due(2, x -> x.shunt(0, 0, 1, 1)).due(0, x -> x.depart(0, 1, 1)).due(2, x -> x.wagons(0))
            .due(2, x -> x.arrive(0, 0)).due(2, x -> x.wagons(0)).due(1, x -> x.wagonOf(0, 0))
            .due(2, x -> x.wagonOf(0, 1));
    }

    static void promise29_listsWagonsInTheOrderOfAsking() {
        Scene s = twoBookings().due(1, x -> x.wagonOf(0, 0)).due(2, x -> x.wagonOf(0, 1)).due(0, x -> x.wagonOf(1, 0))
            .refused(Scene.INDEX, x -> x.wagonOf(0, 2)).refused(Scene.INDEX, x -> x.wagonOf(0, -1))
            .refused(Scene.INDEX, x -> x.wagonOf(1, 1))
            .due(2, x -> x.cancel(0, 0)).due(1, x -> x.ask(0, 3)).due(2, x -> x.ask(0, 3))
            .due(1, x -> x.wagonOf(0, 0)).due(2, x -> x.wagonOf(0, 1)).refused(Scene.INDEX, x -> x.wagonOf(0, 2))
            .due(0, x -> x.wagonOf(1, 0)).due(1, x -> x.wagonOf(1, 1)).due(2, x -> x.wagonOf(1, 2));
        refusesWrongBookings(s, 2, (x, booking) -> x.wagonOf(booking, 0));
        for (int far : Scene.FAR) {
            s.refused(Scene.INDEX, x -> x.wagonOf(0, far));
        }
    }

    static void promise30_tellsWhenAHalfBookingLapses() {
        Scene s = twoBookings().refused(Scene.STATE, x -> x.lapses(0)).refused(Scene.STATE, x -> x.lapses(1))
            .due(0, x -> x.pass(33)).due(0, x -> x.cut(0, 1, 0)).due(10, x -> x.lapses(1))
            .refused(Scene.STATE, x -> x.lapses(0))
            .due(0, x -> x.pass(1)).due(9, x -> x.lapses(1)).due(0, x -> x.pass(8)).due(1, x -> x.lapses(1))
            .due(1, x -> x.pass(1)).refused(Scene.STATE, x -> x.lapses(1));
        refusesWrongBookings(s, 2, (x, booking) -> x.lapses(booking));
    }
}
