/** Promises 31 to 33. */
final class TrainTests {
    private TrainTests() {
    }

    /** Two firm bookings of grain 1 and 2 on track 1 of yard 0: of wagons 1 and 2, and of wagon 0. */
    private static Scene twoFirmBookings() {
        return new Scene()
            .due(0, x -> x.wagon(0, 1)).due(1, x -> x.wagon(0, 1)).due(2, x -> x.wagon(0, 1))
            .due(0, x -> x.call(0, 0)).due(2, x -> x.ask(0, 1)).due(1, x -> x.ask(0, 1)).due(0, x -> x.confirm(0))
            .due(0, x -> x.ask(0, 2)).due(1, x -> x.confirm(0));
    }

    static void promise31_departsWithAllOfATrack() {
        twoFirmBookings()
            .due(0, x -> x.depart(0, 1, 2)).due(1, x -> x.trains()).due(0, x -> x.on(0, 1))
            .due(3, x -> x.state(0)).due(3, x -> x.state(1))
            .due(2, x -> x.carried(0)).due(1, x -> x.carried(1)).due(1, x -> x.carried(2))
            .due(-1, x -> x.where(0)).due(-1, x -> x.where(1)).due(-1, x -> x.where(2))
            .due(1, x -> x.promised(0)).due(0, x -> x.promised(1)).due(0, x -> x.on(2, 1))
            .refused(Scene.STATE, x -> x.depart(0, 1, 2));
    }

    static void promise31_needsEachWagonBooked() {
        twoFirmBookings()
            .due(3, x -> x.wagon(0, 1)).refused(Scene.STATE, x -> x.depart(0, 1, 2))
            .due(3, x -> x.ask(0, 1)).refused(Scene.STATE, x -> x.depart(0, 1, 2))
            .due(2, x -> x.confirm(0)).due(0, x -> x.depart(0, 1, 2));
    }

    static void promise31_needsWholeBookings() {
        twoFirmBookings()
            .due(1, x -> x.shunt(0, 1, 3, 1))
            .refused(Scene.STATE, x -> x.depart(0, 1, 2)).refused(Scene.STATE, x -> x.depart(0, 3, 2))
            .due(2, x -> x.shunt(0, 1, 3, 1)).due(0, x -> x.depart(0, 1, 2)).due(2, x -> x.state(0))
            .due(1, x -> x.depart(0, 3, 1)).due(3, x -> x.state(0));
    }

    static void promise31_aHalfBookingDoesNotGo() {
        new Scene()
            .due(0, x -> x.wagon(0, 0)).due(0, x -> x.call(1, 0)).due(0, x -> x.ask(0, 1)).due(0, x -> x.cut(0, 1, 0))
            .refused(Scene.STATE, x -> x.depart(0, 0, 1))
            .due(1, x -> x.call(1, 0)).due(1, x -> x.resume(1, 0)).refused(Scene.STATE, x -> x.depart(0, 0, 1))
            .due(0, x -> x.confirm(1)).due(1, x -> x.cancel(1, 0)).refused(Scene.STATE, x -> x.depart(0, 0, 1));
    }

    static void promise31_refuses() {
        Scene s = twoFirmBookings()
            .refused(Scene.ARGUMENT, x -> x.depart(-1, 1, 2)).refused(Scene.ARGUMENT, x -> x.depart(3, 1, 2))
            .refused(Scene.ARGUMENT, x -> x.depart(0, -1, 2)).refused(Scene.ARGUMENT, x -> x.depart(0, 5, 2))
            .refused(Scene.ARGUMENT, x -> x.depart(0, 1, -1)).refused(Scene.ARGUMENT, x -> x.depart(0, 1, 3))
            .refused(Scene.ARGUMENT, x -> x.depart(0, 1, 0)).refused(Scene.ARGUMENT, x -> x.depart(1, 1, 1))
            .refused(Scene.STATE, x -> x.depart(0, 0, 2)).refused(Scene.STATE, x -> x.depart(1, 1, 2));
        for (int far : Scene.FAR) {
            s.refused(Scene.ARGUMENT, x -> x.depart(far, 1, 2)).refused(Scene.ARGUMENT, x -> x.depart(0, far, 2));
            s.refused(Scene.ARGUMENT, x -> x.depart(0, 1, far));
        }
    }

    static void promise32_arrivesInOrder() {
        twoFirmBookings()
            .due(3, x -> x.wagon(2, 4)).due(0, x -> x.depart(0, 1, 2)).due(4, x -> x.arrive(0, 4))
            .due(3, x -> x.at(2, 4, 0)).due(0, x -> x.at(2, 4, 1)).due(1, x -> x.at(2, 4, 2)).due(2, x -> x.at(2, 4, 3))
            .due(4, x -> x.state(0)).due(4, x -> x.state(1))
            .due(-1, x -> x.promised(0)).due(-1, x -> x.promised(1)).due(-1, x -> x.promised(2))
            .due(24, x -> x.where(2)).due(1, x -> x.carried(2))
            .refused(Scene.STATE, x -> x.arrive(0, 4)).refused(Scene.STATE, x -> x.arrive(0, 0));
    }

    static void promise32_needsRoom() {
        Scene s = twoFirmBookings().due(0, x -> x.depart(0, 1, 2));
        for (int wagon = 3; wagon < 7; wagon++) {
            s.due(wagon, x -> x.wagon(2, 0));
        }
        s.refused(Scene.STATE, x -> x.arrive(0, 0)).due(1, x -> x.shunt(2, 0, 1, 1)).due(6, x -> x.arrive(0, 0));
    }

    static void promise32_arrivesOutOfTurn() {
        twoFirmBookings()
            .due(2, x -> x.shunt(0, 1, 3, 2)).due(0, x -> x.depart(0, 1, 2)).due(1, x -> x.depart(0, 3, 1))
            .due(2, x -> x.arrive(1, 2)).due(3, x -> x.state(1)).due(4, x -> x.state(0)).due(12, x -> x.where(1))
            .due(1, x -> x.arrive(0, 2)).due(4, x -> x.state(1)).due(22, x -> x.where(0));
    }

    static void promise32_refuses() {
        Scene s = twoFirmBookings()
            .refused(Scene.INDEX, x -> x.arrive(0, 0)).refused(Scene.INDEX, x -> x.arrive(0, 9))
            .due(0, x -> x.depart(0, 1, 2))
            .refused(Scene.INDEX, x -> x.arrive(1, 0)).refused(Scene.INDEX, x -> x.arrive(-1, 0))
            .refused(Scene.ARGUMENT, x -> x.arrive(0, -1)).refused(Scene.ARGUMENT, x -> x.arrive(0, 5));
        for (int far : Scene.FAR) {
            s.refused(Scene.INDEX, x -> x.arrive(far, 0)).refused(Scene.ARGUMENT, x -> x.arrive(0, far));
        }
        s.due(3, x -> x.arrive(0, 0)).refused(Scene.ARGUMENT, x -> x.arrive(0, 5));
    }

    static void promise33_countsTrains() {
        twoFirmBookings()
            .due(0, x -> x.trains()).refused(Scene.STATE, x -> x.depart(0, 0, 2)).due(0, x -> x.trains())
            .due(2, x -> x.shunt(0, 1, 3, 2)).due(0, x -> x.depart(0, 1, 2)).due(1, x -> x.trains())
            .due(1, x -> x.depart(0, 3, 1)).due(2, x -> x.trains()).due(1, x -> x.arrive(0, 0)).due(2, x -> x.trains());
    }
}
