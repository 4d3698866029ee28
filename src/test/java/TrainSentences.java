/** Promises 31 to 33, sentence by sentence. */
final class TrainSentences extends Sentences {
    private TrainSentences() {
    }

    /** Wagon 0 on track 0, and wagon 1 on track 4 of yard 0, each with a firm booking of its own. */
    private static Scene twoTracks() {
        return new Scene().wagons(1, 0, 0).wagons(1, 0, 4).firm(1, 1, 0, 0).firm(1, 2, 0, 0);
    }

    /** A train of so many wagons has departed from yard 0 to yard 2. */
    private static Scene train(int many) {
        return new Scene().wagons(many, 0, 0).firm(many, 1, 0, 0).due(0, x -> x.depart(0, 0, 2));
    }

    // ---- promise 31

    private static final String DEPARTS = "A train departs with all wagons of a track, if there are some, each is of a firm"
        + " booking, and of each of these bookings all wagons are on this track.";
    private static final String UNDER_WAY =
        "Its bookings are under way then; each wagon has carried the grain of its booking last.";
    private static final String NO_TRAIN = "Throws `IllegalStateException` if no train can depart from the track";

    @Sentence("Lets a train depart.")
    static void promise31_itsWagonsLeaveTheTrack() {
        twoTracks().due(0, x -> x.depart(0, 4, 1)).due(0, x -> x.on(0, 4)).due(1, x -> x.on(0, 0)).due(-1, x -> x.where(1))
            .due(0, x -> x.where(0)).due(0, x -> x.on(1, 4)).due(1, x -> x.trains());
    }

    @Sentence(DEPARTS)
    static void promise31_withAllOfAFullTrack() {
        new Scene().wagons(6, 0, 2).firm(3, 0, 0, 0).firm(1, 1, 0, 0).firm(2, 2, 3, 0).due(0, x -> x.depart(0, 2, 1))
            .due(0, x -> x.on(0, 2)).due(-1, x -> x.where(0)).due(-1, x -> x.where(5)).due(3, x -> x.state(0))
            .due(3, x -> x.state(1)).due(3, x -> x.state(2));
    }

    @Sentence(DEPARTS)
    static void promise31_withASingleWagon() {
        new Scene().wagons(1, 2, 4).firm(1, 0, 2, 2).due(0, x -> x.depart(2, 4, 0)).due(-1, x -> x.where(0));
    }

    @Sentence(DEPARTS)
    static void promise31_wagonsMayBeShuntedTogetherFirst() {
        new Scene().wagons(2, 0, 0).wagons(2, 0, 1).firm(4, 3, 0, 0).refused(STATE, x -> x.depart(0, 0, 1))
            .refused(STATE, x -> x.depart(0, 1, 1)).due(3, x -> x.shunt(0, 1, 0, 1)).refused(STATE, x -> x.depart(0, 0, 1))
            .refused(STATE, x -> x.depart(0, 1, 1)).due(4, x -> x.shunt(0, 1, 0, 1)).due(0, x -> x.depart(0, 0, 1));
    }

    @Sentence(UNDER_WAY)
    static void promise31_theBookingsAreUnderWay() {
        twoTracks().due(2, x -> x.shunt(0, 4, 0, 1)).due(0, x -> x.depart(0, 0, 2)).due(3, x -> x.state(0))
            .due(3, x -> x.state(1)).due(0, x -> x.promised(0)).due(1, x -> x.promised(1));
    }

    @Sentence(UNDER_WAY)
    static void promise31_sixBookingsAreUnderWay() {
        Scene s = new Scene().wagons(6, 0, 0);
        for (int booking = 0; booking < 6; booking++) {
            s.firm(1, booking % 4, booking, 0);
        }
        s.due(0, x -> x.depart(0, 0, 1));
        for (int booking = 0; booking < 6; booking++) {
            int b = booking;
            s.due(3, x -> x.state(b)).due(b % 4, x -> x.carried(5 - b)).due(b, x -> x.promised(5 - b));
        }
        s.due(6, x -> x.arrive(0, 4));
        for (int booking = 0; booking < 6; booking++) {
            int b = booking;
            s.due(4, x -> x.state(b)).due(-1, x -> x.promised(b)).due(b, x -> x.at(1, 4, b));
        }
    }

    @Sentence(UNDER_WAY)
    static void promise31_eachWagonHasCarriedItsOwnGrain() {
        new Scene().wagons(4, 0, 2).firm(1, 0, 0, 0).firm(2, 3, 0, 0).firm(1, 1, 0, 0).due(-1, x -> x.carried(3))
            .due(0, x -> x.depart(0, 2, 1)).due(0, x -> x.carried(3)).due(3, x -> x.carried(2)).due(3, x -> x.carried(1))
            .due(1, x -> x.carried(0));
    }

    @Sentence(UNDER_WAY)
    static void promise31_whateverItCarriedBefore() {
        new Scene().carrier(2, 0, 0).follow(2, 0).firm(1, 0, 0, 0).due(2, x -> x.carried(0))
            .due(1, x -> x.depart(0, 0, 1)).due(0, x -> x.carried(0));
        new Scene().carrier(2, 0, 0).firm(1, 2, 0, 0).due(2, x -> x.wash(0)).due(-1, x -> x.carried(0))
            .due(1, x -> x.depart(0, 0, 1)).due(2, x -> x.carried(0));
    }

    @Sentence(YARD)
    static void promise31_yard() {
        new Scene().wagons(1, 0, 0).wagons(1, 2, 0).firm(1, 0, 0, 0).firm(1, 0, 2, 2)
            .outside(ARGUMENT, 0, 2, (x, yard) -> x.depart(yard, 0, 1)).due(0, x -> x.depart(0, 0, 1))
            .due(1, x -> x.depart(2, 0, 1)).due(-1, x -> x.where(0)).due(-1, x -> x.where(1));
    }

    @Sentence(TRACK)
    static void promise31_track() {
        twoTracks().outside(ARGUMENT, 0, 4, (x, track) -> x.depart(0, track, 1)).due(0, x -> x.depart(0, 0, 1))
            .due(1, x -> x.depart(0, 4, 1)).due(-1, x -> x.where(0)).due(-1, x -> x.where(1));
    }

    @Sentence("`to`: 0 to 2, another yard")
    static void promise31_to() {
        new Scene().wagons(1, 1, 0).wagons(1, 1, 1).firm(1, 0, 1, 1).firm(1, 0, 1, 1)
            .outside(ARGUMENT, 0, 2, (x, to) -> x.depart(1, 0, to)).refused(ARGUMENT, x -> x.depart(1, 0, 1))
            .due(0, x -> x.depart(1, 0, 0)).due(1, x -> x.depart(1, 1, 2)).due(1, x -> x.arrive(0, 0))
            .due(1, x -> x.arrive(1, 0)).due(0, x -> x.where(0)).due(20, x -> x.where(1));
    }

    @Sentence(NUMBER)
    static void promise31_numbersTrains() {
        twoTracks().refused(STATE, x -> x.depart(0, 1, 1)).due(0, x -> x.depart(0, 4, 1)).due(1, x -> x.arrive(0, 4))
            .due(1, x -> x.depart(0, 0, 1)).firm(1, 2, 1, 1).due(2, x -> x.depart(1, 4, 0));
    }

    @Sentence("Throws `IllegalArgumentException` if yard, track or to is out of range, or both yards are the same")
    static void promise31_refusesEachAloneAndTogether() {
        twoTracks().refused(ARGUMENT, x -> x.depart(3, 0, 1)).refused(ARGUMENT, x -> x.depart(-1, 0, 1))
            .refused(ARGUMENT, x -> x.depart(0, 5, 1)).refused(ARGUMENT, x -> x.depart(0, -1, 1))
            .refused(ARGUMENT, x -> x.depart(0, 0, 3)).refused(ARGUMENT, x -> x.depart(0, 0, -1))
            .refused(ARGUMENT, x -> x.depart(0, 0, 0)).refused(ARGUMENT, x -> x.depart(0, 5, 0))
            .refused(ARGUMENT, x -> x.depart(3, 5, 3)).refused(ARGUMENT, x -> x.depart(-1, 0, -1));
    }

    @Sentence(NO_TRAIN)
    static void promise31_refusesAnEmptyTrack() {
        twoTracks().refused(STATE, x -> x.depart(0, 1, 1)).refused(STATE, x -> x.depart(1, 0, 0))
            .due(0, x -> x.depart(0, 0, 1)).refused(STATE, x -> x.depart(0, 0, 1));
    }

    @Sentence(NO_TRAIN)
    static void promise31_refusesAWagonThatIsNotPromised() {
        new Scene().wagons(1, 0, 0).refused(STATE, x -> x.depart(0, 0, 1)).firm(1, 0, 0, 0).wagons(1, 0, 0)
            .refused(STATE, x -> x.depart(0, 0, 1)).due(1, x -> x.shunt(0, 0, 1, 1)).refused(STATE, x -> x.depart(0, 1, 1))
            .due(2, x -> x.shunt(0, 0, 1, 1)).refused(STATE, x -> x.depart(0, 1, 1));
    }

    @Sentence(NO_TRAIN)
    static void promise31_refusesABookingThatIsOpenOrHalf() {
        new Scene().wagons(1, 0, 0).asked(1, 0, 1, 0).refused(STATE, x -> x.depart(0, 0, 1)).due(0, x -> x.cut(0, 1, 0))
            .refused(STATE, x -> x.depart(0, 0, 1)).due(1, x -> x.call(1, 0)).due(1, x -> x.resume(1, 0))
            .refused(STATE, x -> x.depart(0, 0, 1)).due(0, x -> x.confirm(1)).due(0, x -> x.depart(0, 0, 1));
    }

    @Sentence(NO_TRAIN)
    static void promise31_refusesABookingThatIsVoid() {
        new Scene().wagons(1, 0, 0).firm(1, 0, 1, 0).due(1, x -> x.call(1, 0)).due(1, x -> x.cancel(1, 0))
            .refused(STATE, x -> x.depart(0, 0, 1));
        new Scene().wagons(1, 0, 0).half(1, 0, 1, 0).due(1, x -> x.pass(10)).refused(STATE, x -> x.depart(0, 0, 1));
    }

    @Sentence(NO_TRAIN)
    static void promise31_refusesAFirmOneBesideOneThatIsNot() {
        new Scene().wagons(2, 0, 0).firm(1, 0, 0, 0).asked(1, 0, 0, 0).refused(STATE, x -> x.depart(0, 0, 1))
            .due(1, x -> x.confirm(1)).due(0, x -> x.depart(0, 0, 1));
        new Scene().wagons(2, 0, 0).due(1, x -> x.setLines(0, 2)).asked(1, 0, 0, 0).firm(1, 0, 3, 0)
            .refused(STATE, x -> x.depart(0, 0, 1)).due(0, x -> x.confirm(0)).due(0, x -> x.depart(0, 0, 1));
    }

    @Sentence(NO_TRAIN)
    static void promise31_refusesABookingWithAWagonElsewhere() {
        new Scene().wagons(3, 0, 0).firm(2, 0, 0, 0).firm(1, 0, 0, 0).due(1, x -> x.shunt(0, 0, 3, 1))
            .refused(STATE, x -> x.depart(0, 0, 1)).refused(STATE, x -> x.depart(0, 3, 1))
            .due(2, x -> x.shunt(0, 0, 3, 1)).due(0, x -> x.depart(0, 0, 1)).due(1, x -> x.depart(0, 3, 1));
    }

    @Sentence(NO_TRAIN)
    static void promise31_refusesABookingOfMoreThanATrackHolds() {
        new Scene().wagons(6, 0, 0).wagons(1, 0, 1).firm(7, 0, 0, 0).refused(STATE, x -> x.depart(0, 0, 1))
            .refused(STATE, x -> x.depart(0, 1, 1));
    }

    @Sentence(NO_TRAIN)
    static void promise31_refusesForSeveralReasons() {
        new Scene().wagons(4, 0, 0).asked(2, 0, 1, 0).due(1, x -> x.shunt(0, 0, 1, 1)).refused(STATE, x -> x.depart(0, 0, 1))
            .refused(STATE, x -> x.depart(0, 1, 1));
    }

    @Sentence(FIRST_OF_SEVERAL)
    static void promise31_wrongNumbersComeFirst() {
        new Scene().wagons(1, 0, 0).refused(ARGUMENT, x -> x.depart(0, 0, 0)).refused(ARGUMENT, x -> x.depart(0, 1, 3))
            .refused(ARGUMENT, x -> x.depart(0, 5, 1)).refused(ARGUMENT, x -> x.depart(3, 0, 1))
            .refused(ARGUMENT, x -> x.depart(2, 2, 2)).refused(STATE, x -> x.depart(0, 0, 1));
    }

    // ---- promise 32

    private static final String ARRIVES = "Trains are numbered from 0 as they depart; each goes to another yard, and arrives"
        + " there on a track with enough room, its wagons in their order; its bookings are done then.";
    private static final String NO_ROOM =
        "Throws `IllegalStateException` if it has arrived, or the track has not enough room";

    @Sentence("Lets a train arrive.")
    static void promise32_itsWagonsAreOnTheTrack() {
        train(2).due(-1, x -> x.where(0)).due(2, x -> x.arrive(0, 3)).due(23, x -> x.where(0)).due(23, x -> x.where(1))
            .due(1, x -> x.carried(0)).due(1, x -> x.carried(1)).due(0, x -> x.on(0, 0)).due(1, x -> x.trains());
    }

    @Sentence(ARRIVES)
    static void promise32_inTheirOrderBehindThoseThatStandThere() {
        train(3).wagons(2, 2, 1).due(5, x -> x.arrive(0, 1)).due(3, x -> x.at(2, 1, 0)).due(4, x -> x.at(2, 1, 1))
            .due(0, x -> x.at(2, 1, 2)).due(1, x -> x.at(2, 1, 3)).due(2, x -> x.at(2, 1, 4));
    }

    @Sentence(ARRIVES)
    static void promise32_leavesTheOtherTracks() {
        train(3).wagons(3, 2, 0).wagons(3, 2, 1).wagons(3, 1, 4).due(6, x -> x.arrive(0, 0)).due(6, x -> x.at(2, 1, 0))
            .due(8, x -> x.at(2, 1, 2)).due(3, x -> x.on(2, 1)).due(9, x -> x.at(1, 4, 0)).due(11, x -> x.at(1, 4, 2))
            .due(3, x -> x.at(2, 0, 0)).due(2, x -> x.at(2, 0, 5));
    }

    @Sentence(ARRIVES)
    static void promise32_itsBookingsAreDone() {
        twoTracks().due(2, x -> x.shunt(0, 4, 0, 1)).due(0, x -> x.depart(0, 0, 1)).due(2, x -> x.arrive(0, 0))
            .due(4, x -> x.state(0)).due(4, x -> x.state(1)).due(-1, x -> x.promised(0)).due(-1, x -> x.promised(1))
            .done(x -> x.call(1, 1)).due(0, x -> x.ask(2, 1)).due(2, x -> x.promised(0));
    }

    @Sentence(ARRIVES)
    static void promise32_inAnyTurnAndLeavingOtherTrains() {
        twoTracks().due(0, x -> x.depart(0, 4, 1)).due(1, x -> x.depart(0, 0, 2)).due(1, x -> x.arrive(1, 0))
            .due(4, x -> x.state(0)).due(3, x -> x.state(1)).due(-1, x -> x.where(1)).due(1, x -> x.promised(1))
            .due(20, x -> x.where(0)).due(1, x -> x.arrive(0, 0)).due(4, x -> x.state(1)).due(10, x -> x.where(1));
    }

    @Sentence(TRACK)
    static void promise32_track() {
        twoTracks().due(0, x -> x.depart(0, 0, 2)).due(1, x -> x.depart(0, 4, 2))
            .outside(ARGUMENT, 0, 4, (x, track) -> x.arrive(0, track)).due(1, x -> x.arrive(0, 0))
            .due(1, x -> x.arrive(1, 4)).due(20, x -> x.where(0)).due(24, x -> x.where(1));
    }

    @Sentence("Returns how many wagons are on that track then.")
    static void promise32_countsTheTrack() {
        for (int stand = 0; stand <= 3; stand++) {
            int before = stand;
            train(3).wagons(before, 2, 0).due(before + 3, x -> x.arrive(0, 0)).due(before + 3, x -> x.on(2, 0));
        }
    }

    @Sentence("Throws `IndexOutOfBoundsException` if there never was such a train")
    static void promise32_refusesNumbersOfNoTrain() {
        new Scene().outside(INDEX, 0, -1, (x, train) -> x.arrive(train, 0));
        twoTracks().due(0, x -> x.depart(0, 0, 2)).outside(INDEX, 0, 0, (x, train) -> x.arrive(train, 0))
            .due(1, x -> x.depart(0, 4, 2)).outside(INDEX, 0, 1, (x, train) -> x.arrive(train, 0))
            .due(1, x -> x.arrive(1, 0)).due(2, x -> x.arrive(0, 0));
    }

    @Sentence("Throws `IllegalArgumentException` if track is out of range")
    static void promise32_refusesAWrongTrack() {
        train(1).refused(ARGUMENT, x -> x.arrive(0, 5)).refused(ARGUMENT, x -> x.arrive(0, -1)).due(1, x -> x.arrive(0, 4));
    }

    @Sentence(NO_ROOM)
    static void promise32_refusesATrainThatHasArrived() {
        train(2).due(2, x -> x.arrive(0, 0)).refused(STATE, x -> x.arrive(0, 0)).refused(STATE, x -> x.arrive(0, 1))
            .due(2, x -> x.shunt(2, 0, 1, 2)).refused(STATE, x -> x.arrive(0, 0)).firm(2, 1, 2, 2)
            .due(1, x -> x.depart(2, 1, 0)).refused(STATE, x -> x.arrive(0, 0)).due(2, x -> x.arrive(1, 0));
    }

    @Sentence(NO_ROOM)
    static void promise32_refusesWithoutEnoughRoom() {
        train(3).wagons(4, 2, 0).refused(STATE, x -> x.arrive(0, 0)).due(1, x -> x.shunt(2, 0, 1, 1))
            .due(6, x -> x.arrive(0, 0));
        train(1).wagons(6, 2, 0).refused(STATE, x -> x.arrive(0, 0)).due(1, x -> x.arrive(0, 1));
    }

    @Sentence(NO_ROOM)
    static void promise32_aFullTrainNeedsAnEmptyTrack() {
        train(6).wagons(1, 2, 0).wagons(6, 2, 1).refused(STATE, x -> x.arrive(0, 0)).refused(STATE, x -> x.arrive(0, 1))
            .due(6, x -> x.arrive(0, 2)).due(0, x -> x.at(2, 2, 0)).due(5, x -> x.at(2, 2, 5));
    }

    @Sentence(NO_ROOM)
    static void promise32_refusesForBothReasons() {
        train(3).due(3, x -> x.arrive(0, 0)).wagons(3, 2, 0).refused(STATE, x -> x.arrive(0, 0));
    }

    @Sentence(FIRST_OF_SEVERAL)
    static void promise32_noTrainThenAWrongTrackThenTheState() {
        train(1).refused(INDEX, x -> x.arrive(1, 5)).refused(INDEX, x -> x.arrive(-1, -1)).due(1, x -> x.arrive(0, 0))
            .refused(ARGUMENT, x -> x.arrive(0, 5)).refused(ARGUMENT, x -> x.arrive(0, -1)).refused(STATE, x -> x.arrive(0, 0))
            .refused(INDEX, x -> x.arrive(1, 0));
        train(1).wagons(6, 2, 0).refused(ARGUMENT, x -> x.arrive(0, 5)).refused(INDEX, x -> x.arrive(1, 0));
    }

    // ---- promise 33

    @Sentence("Returns how many trains departed.")
    static void promise33_countsDepartures() {
        twoTracks().due(0, x -> x.trains()).due(0, x -> x.depart(0, 0, 1)).due(1, x -> x.trains())
            .due(1, x -> x.depart(0, 4, 1)).due(2, x -> x.trains());
    }

    @Sentence("Returns how many trains departed.")
    static void promise33_countsThoseThatArrivedAndNoneRefused() {
        twoTracks().refused(STATE, x -> x.depart(0, 1, 1)).due(0, x -> x.trains()).due(0, x -> x.depart(0, 0, 1))
            .due(1, x -> x.arrive(0, 0)).due(1, x -> x.trains()).refused(STATE, x -> x.depart(0, 0, 1))
            .due(1, x -> x.trains());
    }
}
