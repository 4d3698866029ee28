/** Promises 26 to 30, sentence by sentence. */
final class BookingSentences extends Sentences {
    private BookingSentences() {
    }

    /** Booking 0 of the wagons 2 and 1 is firm, booking 1 of the wagon 0 open, in a call 1 of customer 1. */
    private static Scene firmAndOpen() {
        return new Scene().wagons(3, 0, 0).firm(2, 1, 4, 0).asked(1, 2, 1, 0);
    }

    private static Scene fortyBookings() {
        Scene s = new Scene().wagons(1, 0, 0).due(0, x -> x.call(0, 0));
        for (int booking = 0; booking < 39; booking++) {
            int b = booking;
            s.due(0, x -> x.ask(0, 0)).due(b, x -> x.confirm(0)).due(1, x -> x.cancel(0, b));
        }
        return s.due(0, x -> x.ask(0, 0));
    }

    // ---- promise 26

    private static final String OPENED = "Returns how many bookings were opened.";

    @Sentence(OPENED)
    static void promise26_countsWhatTheFirstWagonOpens() {
        new Scene().due(0, x -> x.bookings()).wagons(2, 0, 0).due(0, x -> x.call(1, 0)).due(0, x -> x.bookings())
            .due(1, x -> x.ask(0, 0)).due(1, x -> x.bookings()).due(0, x -> x.ask(0, 0)).due(1, x -> x.bookings())
            .due(-1, x -> x.ask(0, 0)).due(1, x -> x.bookings());
    }

    @Sentence(OPENED)
    static void promise26_countsThoseThatAreOverAndNoneThatIsTakenUpAgain() {
        new Scene().wagons(1, 0, 0).half(1, 0, 1, 0).due(1, x -> x.bookings()).due(1, x -> x.call(1, 0))
            .due(1, x -> x.resume(1, 0)).due(1, x -> x.bookings()).due(1, x -> x.hangUp(1)).due(1, x -> x.bookings())
            .firm(1, 0, 1, 0).due(2, x -> x.bookings()).due(0, x -> x.depart(0, 0, 1)).due(1, x -> x.arrive(0, 0))
            .due(2, x -> x.bookings());
    }

    @Sentence(OPENED)
    static void promise26_countsToForty() {
        fortyBookings().due(40, x -> x.bookings()).due(39, x -> x.confirm(0)).refused(STATE, x -> x.ask(0, 0))
            .due(40, x -> x.bookings());
    }

    // ---- promise 27

    private static final String STATES =
        "Returns what a booking is: 0 open, 1 half, 2 firm, 3 under way, 4 done, 5 void.";

    @Sentence(STATES)
    static void promise27_openFirmUnderWayDone() {
        new Scene().wagons(1, 0, 0).asked(1, 1, 1, 0).due(0, x -> x.state(0)).due(0, x -> x.confirm(0))
            .due(2, x -> x.state(0)).due(0, x -> x.depart(0, 0, 1)).due(3, x -> x.state(0))
            .due(1, x -> x.arrive(0, 0)).due(4, x -> x.state(0)).due(0, x -> x.pass(100)).due(4, x -> x.state(0));
    }

    @Sentence(STATES)
    static void promise27_openHalfOpenHalfVoid() {
        new Scene().wagons(1, 0, 0).asked(1, 1, 1, 0).due(0, x -> x.state(0)).due(0, x -> x.cut(0, 1, 0))
            .due(1, x -> x.state(0)).due(1, x -> x.call(1, 0)).due(1, x -> x.resume(1, 0)).due(0, x -> x.state(0))
            .due(1, x -> x.cut(0, 1, 1)).due(1, x -> x.state(0)).due(1, x -> x.pass(10)).due(5, x -> x.state(0));
    }

    @Sentence(STATES)
    static void promise27_voidByHangingUpAndByCancelling() {
        new Scene().wagons(1, 0, 0).asked(1, 1, 1, 0).due(1, x -> x.hangUp(0)).due(5, x -> x.state(0)).asked(1, 1, 1, 0)
            .due(1, x -> x.confirm(1)).due(1, x -> x.cancel(1, 1)).due(5, x -> x.state(1)).due(0, x -> x.hangUp(1))
            .due(5, x -> x.state(0)).due(5, x -> x.state(1));
    }

    @Sentence(NO_BOOKING)
    static void promise27_refusesNumbersOfNoBooking() {
        new Scene().outside(INDEX, 0, -1, (x, booking) -> x.state(booking));
        firmAndOpen().outside(INDEX, 0, 1, (x, booking) -> x.state(booking)).due(2, x -> x.state(0))
            .due(0, x -> x.state(1));
        fortyBookings().outside(INDEX, 0, 39, (x, booking) -> x.state(booking)).due(0, x -> x.state(39));
    }

    // ---- promise 28

    private static final String HAS = "Returns how many wagons a booking has, or had as long as they were promised.";

    @Sentence(HAS)
    static void promise28_countsWhatItHas() {
        Scene s = new Scene().wagons(6, 0, 0).wagons(6, 0, 1).done(x -> x.call(1, 0));
        for (int many = 1; many <= 12; many++) {
            int m = many;
            s.done(x -> x.ask(0, 1)).due(m, x -> x.wagons(0));
        }
        s.due(-1, x -> x.ask(0, 1)).due(12, x -> x.wagons(0)).due(0, x -> x.confirm(0)).due(12, x -> x.wagons(0));
    }

    @Sentence(HAS)
    static void promise28_countsAllThirty() {
        new Scene().wagons(6, 0, 0).wagons(6, 0, 1).wagons(6, 0, 2).wagons(6, 0, 3).wagons(6, 0, 4)
            .asked(30, 1, 0, 0).due(30, x -> x.wagons(0)).due(30, x -> x.hangUp(0)).due(30, x -> x.wagons(0));
    }

    @Sentence(HAS)
    static void promise28_countsWhatItHadWhenItIsVoid() {
        firmAndOpen().due(1, x -> x.hangUp(1)).due(1, x -> x.wagons(1)).done(x -> x.call(4, 0))
            .due(2, x -> x.cancel(2, 0)).due(2, x -> x.wagons(0)).hungUp(4).asked(3, 1, 0, 0)
            .due(3, x -> x.wagons(2)).due(2, x -> x.wagons(0)).due(1, x -> x.wagons(1));
    }

    @Sentence(HAS)
    static void promise28_countsWhatItHadWhenItLapsedOrIsDone() {
        new Scene().wagons(3, 0, 0).half(3, 1, 1, 0).due(3, x -> x.wagons(0)).due(1, x -> x.pass(10))
            .due(3, x -> x.wagons(0)).firm(3, 1, 1, 0).due(0, x -> x.depart(0, 0, 1)).due(3, x -> x.wagons(1))
            .due(3, x -> x.arrive(0, 0)).due(3, x -> x.wagons(1)).due(3, x -> x.wagons(0));
    }

    @Sentence(NO_BOOKING)
    static void promise28_refusesNumbersOfNoBooking() {
        new Scene().outside(INDEX, 0, -1, (x, booking) -> x.wagons(booking));
        firmAndOpen().outside(INDEX, 0, 1, (x, booking) -> x.wagons(booking)).due(1, x -> x.wagons(1));
        fortyBookings().outside(INDEX, 0, 39, (x, booking) -> x.wagons(booking)).due(1, x -> x.wagons(39));
    }

    // ---- promise 29

    private static final String OF =
        "Returns a wagon of a booking, in the order in which they were asked for, also if it is promised no more.";

    @Sentence(OF)
    static void promise29_tellsThemInTheOrderOfAsking() {
        new Scene().wagons(2, 0, 3).wagons(1, 0, 1).asked(3, 1, 0, 0).due(2, x -> x.wagonOf(0, 0))
            .due(1, x -> x.wagonOf(0, 1)).due(0, x -> x.wagonOf(0, 2)).due(1, x -> x.shunt(0, 3, 0, 1))
            .due(2, x -> x.wagonOf(0, 0)).due(1, x -> x.wagonOf(0, 1)).due(0, x -> x.wagonOf(0, 2));
    }

    @Sentence(OF)
    static void promise29_goesOnInABookingTakenUpAgain() {
        new Scene().wagons(3, 0, 0).half(2, 1, 1, 0).due(1, x -> x.call(1, 0)).due(2, x -> x.resume(1, 0))
            .wagons(1, 0, 1).due(3, x -> x.ask(1, 1)).due(0, x -> x.ask(1, 1)).due(2, x -> x.wagonOf(0, 0))
            .due(1, x -> x.wagonOf(0, 1)).due(3, x -> x.wagonOf(0, 2)).due(0, x -> x.wagonOf(0, 3));
    }

    @Sentence(OF)
    static void promise29_alsoIfPromisedNoMoreOrToAnother() {
        firmAndOpen().due(1, x -> x.hangUp(1)).due(0, x -> x.wagonOf(1, 0)).done(x -> x.call(4, 0))
            .due(2, x -> x.cancel(2, 0)).due(2, x -> x.wagonOf(0, 0)).due(1, x -> x.wagonOf(0, 1))
            .hungUp(4).asked(3, 2, 0, 0).due(2, x -> x.promised(2)).due(2, x -> x.wagonOf(0, 0)).due(1, x -> x.wagonOf(0, 1))
            .due(0, x -> x.wagonOf(1, 0)).due(2, x -> x.wagonOf(2, 0));
    }

    @Sentence(OF)
    static void promise29_alsoWhenItIsDone() {
        new Scene().wagons(2, 0, 0).firm(2, 1, 0, 0).due(0, x -> x.depart(0, 0, 2)).due(1, x -> x.wagonOf(0, 0))
            .due(2, x -> x.arrive(0, 0)).due(1, x -> x.wagonOf(0, 0)).due(0, x -> x.wagonOf(0, 1));
    }

    @Sentence("`place`: from 0")
    static void promise29_place() {
        firmAndOpen().due(2, x -> x.wagonOf(0, 0)).due(1, x -> x.wagonOf(0, 1)).refused(INDEX, x -> x.wagonOf(0, -1))
            .refused(INDEX, x -> x.wagonOf(0, Integer.MIN_VALUE)).due(0, x -> x.wagonOf(1, 0))
            .refused(INDEX, x -> x.wagonOf(1, -1));
    }

    private static final String NO_SUCH =
        "Throws `IndexOutOfBoundsException` if there never was such a booking, or it has no such wagon";

    @Sentence(NO_SUCH)
    static void promise29_refusesNumbersOfNoBooking() {
        new Scene().outside(INDEX, 0, -1, (x, booking) -> x.wagonOf(booking, 0));
        firmAndOpen().outside(INDEX, 0, 1, (x, booking) -> x.wagonOf(booking, 0));
        fortyBookings().outside(INDEX, 0, 39, (x, booking) -> x.wagonOf(booking, 0)).due(0, x -> x.wagonOf(39, 0));
    }

    @Sentence(NO_SUCH)
    static void promise29_refusesPlacesWithoutAWagon() {
        firmAndOpen().outside(INDEX, 0, 1, (x, place) -> x.wagonOf(0, place))
            .outside(INDEX, 0, 0, (x, place) -> x.wagonOf(1, place)).due(1, x -> x.hangUp(1))
            .outside(INDEX, 0, 0, (x, place) -> x.wagonOf(1, place));
        new Scene().wagons(6, 0, 0).wagons(6, 0, 1).wagons(6, 0, 2).wagons(6, 0, 3).wagons(6, 0, 4)
            .asked(30, 1, 0, 0).due(24, x -> x.wagonOf(0, 29)).outside(INDEX, 0, 29, (x, place) -> x.wagonOf(0, place));
    }

    @Sentence(NO_SUCH)
    static void promise29_refusesForBothReasons() {
        firmAndOpen().refused(INDEX, x -> x.wagonOf(2, 2)).refused(INDEX, x -> x.wagonOf(-1, -1))
            .refused(INDEX, x -> x.wagonOf(2, -1)).refused(INDEX, x -> x.wagonOf(-1, 1));
    }

    // ---- promise 30

    @Sentence("Returns in how many ticks a half booking lapses.")
    static void promise30_countsFromTenToOne() {
        Scene s = new Scene().wagons(1, 0, 0).due(0, x -> x.pass(42)).half(1, 1, 1, 0);
        for (int left = 10; left >= 1; left--) {
            int l = left;
            s.due(l, x -> x.lapses(0)).due(l == 1 ? 1 : 0, x -> x.pass(1));
        }
        s.refused(STATE, x -> x.lapses(0)).due(5, x -> x.state(0));
    }

    @Sentence("Returns in how many ticks a half booking lapses.")
    static void promise30_tellsOfEachItsOwnTicks() {
        new Scene().wagons(2, 0, 0).half(1, 1, 1, 0).due(0, x -> x.pass(6)).half(1, 1, 4, 0).due(4, x -> x.lapses(0))
            .due(10, x -> x.lapses(1)).due(1, x -> x.pass(4)).due(6, x -> x.lapses(1)).refused(STATE, x -> x.lapses(0));
    }

    @Sentence("Returns in how many ticks a half booking lapses.")
    static void promise30_isTenAgainWhenItBecomesHalfAgain() {
        new Scene().wagons(1, 0, 0).half(1, 1, 1, 0).due(0, x -> x.pass(9)).due(1, x -> x.lapses(0))
            .due(1, x -> x.call(1, 0)).due(1, x -> x.resume(1, 0)).due(0, x -> x.pass(20)).due(1, x -> x.cut(0, 1, 0))
            .due(10, x -> x.lapses(0));
    }

    @Sentence(NO_BOOKING)
    static void promise30_refusesNumbersOfNoBooking() {
        new Scene().outside(INDEX, 0, -1, (x, booking) -> x.lapses(booking));
        firmAndOpen().due(1, x -> x.cut(0, 1, 0)).outside(INDEX, 0, 1, (x, booking) -> x.lapses(booking))
            .due(10, x -> x.lapses(1));
    }

    @Sentence("Throws `IllegalStateException` if it is not half")
    static void promise30_refusesWhatIsNotHalf() {
        firmAndOpen().refused(STATE, x -> x.lapses(0)).refused(STATE, x -> x.lapses(1)).due(1, x -> x.cut(0, 1, 0))
            .refused(STATE, x -> x.lapses(0)).due(1, x -> x.pass(10)).refused(STATE, x -> x.lapses(1))
            .due(2, x -> x.shunt(0, 0, 1, 2)).due(0, x -> x.depart(0, 1, 1)).refused(STATE, x -> x.lapses(0))
            .due(2, x -> x.arrive(0, 0)).refused(STATE, x -> x.lapses(0));
        new Scene().wagons(1, 0, 0).half(1, 1, 1, 0).due(1, x -> x.call(1, 0)).due(1, x -> x.resume(1, 0))
            .refused(STATE, x -> x.lapses(0)).due(0, x -> x.confirm(1)).refused(STATE, x -> x.lapses(0));
    }

    @Sentence(FIRST_OF_SEVERAL)
    static void promise30_noBookingComesFirst() {
        firmAndOpen().refused(INDEX, x -> x.lapses(2)).refused(INDEX, x -> x.lapses(-1)).refused(STATE, x -> x.lapses(1));
    }
}
