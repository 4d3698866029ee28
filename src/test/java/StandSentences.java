/** Promises 6 to 11, sentence by sentence. */
final class StandSentences extends Sentences {
    private StandSentences() {
    }

    // ---- promise 6

    @Sentence("Returns how many wagons are on a track.")
    static void promise06_countsFromEmptyToFull() {
        Scene s = new Scene().due(0, x -> x.on(1, 2));
        for (int many = 1; many <= 6; many++) {
            s.wagons(1, 1, 2).due(many, x -> x.on(1, 2));
        }
        s.due(0, x -> x.on(1, 1)).due(0, x -> x.on(1, 3)).due(0, x -> x.on(0, 2)).due(0, x -> x.on(2, 2));
    }

    @Sentence("Returns how many wagons are on a track.")
    static void promise06_countsAfterComingAndGoing() {
        new Scene().wagons(3, 0, 2).wagons(1, 1, 0).due(1, x -> x.shunt(0, 2, 1, 1))
            .due(2, x -> x.on(0, 2)).due(1, x -> x.on(0, 1))
            .firm(3, 0, 0, 0).due(3, x -> x.shunt(0, 2, 1, 2)).due(0, x -> x.on(0, 2))
            .due(0, x -> x.depart(0, 1, 1)).due(0, x -> x.on(0, 1))
            .due(1, x -> x.on(1, 0)).due(4, x -> x.arrive(0, 0)).due(4, x -> x.on(1, 0));
    }

    @Sentence(YARD)
    static void promise06_yard() {
        new Scene().wagons(1, 0, 1).wagons(2, 2, 1).due(1, x -> x.on(0, 1)).due(2, x -> x.on(2, 1))
            .outside(ARGUMENT, 0, 2, (x, yard) -> x.on(yard, 1));
    }

    @Sentence(TRACK)
    static void promise06_track() {
        new Scene().wagons(1, 1, 0).wagons(2, 1, 4).due(1, x -> x.on(1, 0)).due(2, x -> x.on(1, 4))
            .outside(ARGUMENT, 0, 4, (x, track) -> x.on(1, track));
    }

    @Sentence(WRONG_TRACK)
    static void promise06_refusesEachAloneAndBoth() {
        new Scene().refused(ARGUMENT, x -> x.on(3, 4)).refused(ARGUMENT, x -> x.on(-1, 0))
            .refused(ARGUMENT, x -> x.on(2, 5)).refused(ARGUMENT, x -> x.on(0, -1))
            .refused(ARGUMENT, x -> x.on(3, 5)).refused(ARGUMENT, x -> x.on(1, -1)).refused(ARGUMENT, x -> x.on(-1, 5));
    }

    // ---- promise 7

    @Sentence("Returns a wagon of a track.")
    static void promise07_tellsTheFirstAndTheLast() {
        new Scene().wagons(2, 0, 0).wagons(6, 2, 3).due(2, x -> x.at(2, 3, 0)).due(7, x -> x.at(2, 3, 5))
            .due(0, x -> x.at(0, 0, 0)).due(1, x -> x.at(0, 0, 1));
    }

    @Sentence(YARD)
    static void promise07_yard() {
        new Scene().wagons(1, 0, 1).wagons(1, 2, 1).due(0, x -> x.at(0, 1, 0)).due(1, x -> x.at(2, 1, 0))
            .outside(ARGUMENT, 0, 2, (x, yard) -> x.at(yard, 1, 0));
    }

    @Sentence(TRACK)
    static void promise07_track() {
        new Scene().wagons(1, 1, 0).wagons(1, 1, 4).due(0, x -> x.at(1, 0, 0)).due(1, x -> x.at(1, 4, 0))
            .outside(ARGUMENT, 0, 4, (x, track) -> x.at(1, track, 0));
    }

    @Sentence(WRONG_TRACK)
    static void promise07_refusesEachAloneAndBoth() {
        new Scene().wagons(1, 0, 0).wagons(1, 0, 4).wagons(1, 1, 0).wagons(1, 2, 0)
            .refused(ARGUMENT, x -> x.at(3, 0, 0)).refused(ARGUMENT, x -> x.at(-1, 0, 0))
            .refused(ARGUMENT, x -> x.at(0, 5, 0)).refused(ARGUMENT, x -> x.at(1, -1, 0))
            .refused(ARGUMENT, x -> x.at(3, 5, 0)).refused(ARGUMENT, x -> x.at(-1, -1, 0));
    }

    @Sentence(NO_PLACE)
    static void promise07_refusesPlacesWithoutAWagon() {
        new Scene().wagons(1, 1, 1).wagons(3, 1, 2).wagons(6, 1, 3)
            .outside(INDEX, 0, -1, (x, place) -> x.at(1, 0, place))
            .outside(INDEX, 0, 0, (x, place) -> x.at(1, 1, place))
            .outside(INDEX, 0, 2, (x, place) -> x.at(1, 2, place))
            .outside(INDEX, 0, 5, (x, place) -> x.at(1, 3, place))
            .due(2, x -> x.shunt(1, 2, 1, 1)).refused(INDEX, x -> x.at(1, 2, 2)).due(3, x -> x.at(1, 1, 1));
    }

    @Sentence(FIRST_OF_SEVERAL)
    static void promise07_aWrongTrackComesFirst() {
        new Scene().wagons(1, 0, 0).refused(ARGUMENT, x -> x.at(3, 0, 1)).refused(ARGUMENT, x -> x.at(0, 5, -1))
            .refused(ARGUMENT, x -> x.at(-1, 0, 6)).refused(ARGUMENT, x -> x.at(0, -1, Integer.MAX_VALUE));
    }

    // ---- promise 8

    private static final String BY_REPLAY =
        "Returns the same by replay of all placings, shuntings, departures and arrivals.";

    @Sentence(BY_REPLAY)
    static void promise08_replaysPlacings() {
        Scene s = new Scene().wagons(1, 0, 0).wagons(6, 2, 3).wagons(1, 0, 0);
        for (int place = 0; place < 6; place++) {
            int p = place;
            s.due(1 + p, x -> x.atByReplay(2, 3, p));
        }
        s.due(0, x -> x.atByReplay(0, 0, 0)).due(7, x -> x.atByReplay(0, 0, 1));
    }

    @Sentence(BY_REPLAY)
    static void promise08_replaysShuntings() {
        new Scene().wagons(6, 1, 4).wagons(1, 1, 0).due(3, x -> x.shunt(1, 4, 0, 2)).due(6, x -> x.atByReplay(1, 0, 0))
            .due(4, x -> x.atByReplay(1, 0, 1)).due(5, x -> x.atByReplay(1, 0, 2)).due(3, x -> x.atByReplay(1, 4, 3))
            .refused(INDEX, x -> x.atByReplay(1, 4, 4)).due(6, x -> x.shunt(1, 0, 4, 2))
            .due(5, x -> x.atByReplay(1, 4, 5));
    }

    @Sentence(BY_REPLAY)
    static void promise08_replaysDepartures() {
        new Scene().wagons(2, 0, 3).wagons(1, 0, 4).firm(3, 0, 0, 0).due(1, x -> x.shunt(0, 4, 2, 1))
            .due(3, x -> x.shunt(0, 2, 3, 1)).due(0, x -> x.atByReplay(0, 3, 0)).due(0, x -> x.depart(0, 3, 1))
            .refused(INDEX, x -> x.atByReplay(0, 3, 0)).refused(INDEX, x -> x.atByReplay(1, 3, 0))
            .due(3, x -> x.wagon(0, 3)).due(3, x -> x.atByReplay(0, 3, 0));
    }

    @Sentence(BY_REPLAY)
    static void promise08_replaysArrivals() {
        new Scene().wagons(2, 0, 3).firm(1, 0, 0, 0).firm(1, 1, 0, 0).wagons(1, 2, 1)
            .due(1, x -> x.shunt(0, 3, 4, 1)).due(0, x -> x.depart(0, 3, 2)).due(1, x -> x.depart(0, 4, 2))
            .due(2, x -> x.arrive(1, 1)).due(3, x -> x.arrive(0, 1)).due(2, x -> x.atByReplay(2, 1, 0))
            .due(1, x -> x.atByReplay(2, 1, 1)).due(0, x -> x.atByReplay(2, 1, 2));
    }

    @Sentence(BY_REPLAY)
    static void promise08_asksDoNotPileUp() {
        new Scene().wagons(6, 0, 0).due(3, x -> x.atByReplay(0, 0, 3)).due(3, x -> x.atByReplay(0, 0, 3))
            .refused(INDEX, x -> x.atByReplay(0, 0, 6)).due(6, x -> x.on(0, 0)).due(3, x -> x.at(0, 0, 3))
            .refused(STATE, x -> x.wagon(0, 0)).due(0, x -> x.atByReplay(0, 0, 0)).due(5, x -> x.atByReplay(0, 0, 5));
    }

    @Sentence("Callers place and shunt wagons, let customers call, ask, confirm and hang up, cut trunks, and send trains,"
        + " and ask; no wagon is promised twice; what stands on tracks is kept, and found by replay of all that"
        + " happened.")
    static void promise08_isTheSameAsKept() {
        Scene s = new Scene().wagons(4, 0, 0).wagons(2, 0, 1).firm(2, 1, 0, 0).firm(1, 2, 3, 0)
            .done(x -> x.shunt(0, 0, 2, 2)).done(x -> x.shunt(0, 1, 2, 1)).done(x -> x.depart(0, 2, 1))
            .wagons(3, 1, 4).done(x -> x.arrive(0, 4)).done(x -> x.shunt(1, 4, 0, 4));
        for (int row = 0; row < 15; row++) {
            int yard = row / 5;
            int track = row % 5;
            for (int place = 0; place < 6; place++) {
                int p = place;
                s.due(0, x -> p < x.on(yard, track) ? x.at(yard, track, p) - x.atByReplay(yard, track, p) : 0);
            }
        }
        s.due(4, x -> x.on(1, 0)).due(2, x -> x.on(1, 4)).due(2, x -> x.on(0, 0)).due(1, x -> x.on(0, 1));
    }

    @Sentence(YARD)
    static void promise08_yard() {
        new Scene().wagons(1, 0, 1).wagons(1, 2, 1).due(0, x -> x.atByReplay(0, 1, 0))
            .due(1, x -> x.atByReplay(2, 1, 0)).outside(ARGUMENT, 0, 2, (x, yard) -> x.atByReplay(yard, 1, 0));
    }

    @Sentence(TRACK)
    static void promise08_track() {
        new Scene().wagons(1, 1, 0).wagons(1, 1, 4).due(0, x -> x.atByReplay(1, 0, 0))
            .due(1, x -> x.atByReplay(1, 4, 0)).outside(ARGUMENT, 0, 4, (x, track) -> x.atByReplay(1, track, 0));
    }

    @Sentence(WRONG_TRACK)
    static void promise08_refusesEachAloneAndBoth() {
        new Scene().wagons(1, 0, 0).wagons(1, 0, 4).wagons(1, 1, 0).wagons(1, 2, 0)
            .refused(ARGUMENT, x -> x.atByReplay(3, 0, 0)).refused(ARGUMENT, x -> x.atByReplay(-1, 0, 0))
            .refused(ARGUMENT, x -> x.atByReplay(0, 5, 0)).refused(ARGUMENT, x -> x.atByReplay(1, -1, 0))
            .refused(ARGUMENT, x -> x.atByReplay(3, 5, 0)).refused(ARGUMENT, x -> x.atByReplay(-1, -1, 0));
    }

    @Sentence(NO_PLACE)
    static void promise08_refusesPlacesWithoutAWagon() {
        new Scene().wagons(1, 1, 1).wagons(3, 1, 2).wagons(6, 1, 3)
            .outside(INDEX, 0, -1, (x, place) -> x.atByReplay(1, 0, place))
            .outside(INDEX, 0, 0, (x, place) -> x.atByReplay(1, 1, place))
            .outside(INDEX, 0, 2, (x, place) -> x.atByReplay(1, 2, place))
            .outside(INDEX, 0, 5, (x, place) -> x.atByReplay(1, 3, place));
    }

    @Sentence(FIRST_OF_SEVERAL)
    static void promise08_aWrongTrackComesFirst() {
        new Scene().wagons(1, 0, 0)
            .refused(ARGUMENT, x -> x.atByReplay(3, 0, 1)).refused(ARGUMENT, x -> x.atByReplay(0, 5, -1))
            .refused(ARGUMENT, x -> x.atByReplay(-1, 0, 6)).refused(ARGUMENT, x -> x.atByReplay(0, -1, 9));
    }

    // ---- promise 9

    private static final String WHERE =
        "Returns where a wagon is: 10 times the yard, and the track, together; -1 if it is with a train.";

    @Sentence(WHERE)
    static void promise09_tellsEachTrackOfEachYard() {
        Scene s = new Scene();
        for (int row = 0; row < 15; row++) {
            int yard = row / 5;
            int track = row % 5;
            int wagon = row * 2 + 1;
            s.wagons(2, yard, track).due(10 * yard + track, x -> x.where(wagon - 1));
            s.due(10 * yard + track, x -> x.where(wagon));
        }
    }

    @Sentence(WHERE)
    static void promise09_goesAlongWithShuntings() {
        new Scene().wagons(6, 2, 0).due(2, x -> x.shunt(2, 0, 4, 2)).due(20, x -> x.where(0)).due(20, x -> x.where(3))
            .due(24, x -> x.where(4)).due(24, x -> x.where(5));
    }

    @Sentence(WHERE)
    static void promise09_isWithTheTrainTillItArrives() {
        new Scene().wagons(2, 2, 0).firm(2, 1, 2, 2).wagons(1, 1, 0).due(0, x -> x.depart(2, 0, 0))
            .due(-1, x -> x.where(0)).due(-1, x -> x.where(1)).due(10, x -> x.where(2))
            .due(2, x -> x.arrive(0, 0)).due(0, x -> x.where(0)).due(0, x -> x.where(1)).due(10, x -> x.where(2));
    }

    @Sentence(NO_WAGON)
    static void promise09_refusesNumbersOfNoWagon() {
        new Scene().refused(INDEX, x -> x.where(0)).wagons(1, 1, 4).due(14, x -> x.where(0))
            .outside(INDEX, 0, 0, (x, wagon) -> x.where(wagon))
            .wagons(5, 1, 4).wagons(6, 2, 4).wagons(6, 2, 3).wagons(6, 2, 2).wagons(6, 2, 1)
            .due(21, x -> x.where(29)).outside(INDEX, 0, 29, (x, wagon) -> x.where(wagon));
    }

    // ---- promise 10

    private static final String CARRIED = "Returns the grain that a wagon has carried last, -1 if none.";

    @Sentence(CARRIED)
    static void promise10_tellsEachGrainAndNone() {
        Scene s = new Scene().wagons(1, 1, 0).due(-1, x -> x.carried(0));
        for (int grain = 0; grain < 4; grain++) {
            int g = grain;
            s.carrier(g, 1, 1).due(g, x -> x.carried(1 + g));
        }
        s.due(0, x -> x.carried(1)).due(-1, x -> x.carried(0));
    }

    @Sentence(CARRIED)
    static void promise10_tellsTheLastOfSeveral() {
        new Scene().carrier(1, 0, 0).follow(1, 3).firm(1, 3, 0, 0).due(1, x -> x.carried(0))
            .due(1, x -> x.depart(0, 0, 2)).due(3, x -> x.carried(0)).due(1, x -> x.arrive(1, 0))
            .due(3, x -> x.carried(0)).due(3, x -> x.wash(2)).due(-1, x -> x.carried(0));
    }

    @Sentence(CARRIED)
    static void promise10_isNotChangedByABookingAlone() {
        new Scene().wagons(1, 0, 0).asked(1, 2, 0, 0).due(-1, x -> x.carried(0)).due(0, x -> x.confirm(0))
            .due(-1, x -> x.carried(0)).due(1, x -> x.cancel(0, 0)).due(-1, x -> x.carried(0));
    }

    @Sentence(NO_WAGON)
    static void promise10_refusesNumbersOfNoWagon() {
        new Scene().refused(INDEX, x -> x.carried(0)).wagons(1, 1, 4).due(-1, x -> x.carried(0))
            .outside(INDEX, 0, 0, (x, wagon) -> x.carried(wagon))
            .wagons(5, 1, 4).wagons(6, 2, 4).wagons(6, 2, 3).wagons(6, 2, 2).wagons(6, 2, 1)
            .due(-1, x -> x.carried(29)).outside(INDEX, 0, 29, (x, wagon) -> x.carried(wagon));
    }

    // ---- promise 11

    private static final String PROMISED = "Returns the booking to which a wagon is promised, -1 if to none.";
    private static final String ALL_PROMISED =
        "All wagons of a booking are promised, as long as it is open, half, firm or under way.";

    @Sentence(PROMISED)
    static void promise11_tellsOfEachWagonItsOwnBooking() {
        new Scene().wagons(4, 0, 0).firm(1, 0, 0, 0).firm(2, 0, 3, 0)
            .due(-1, x -> x.promised(0)).due(1, x -> x.promised(1)).due(1, x -> x.promised(2)).due(0, x -> x.promised(3));
    }

    @Sentence(ALL_PROMISED)
    static void promise11_asLongAsItIsOpenOrHalf() {
        new Scene().wagons(2, 0, 0).asked(2, 0, 1, 0).due(0, x -> x.promised(0)).due(0, x -> x.promised(1))
            .due(0, x -> x.cut(1, 0, 0)).due(1, x -> x.state(0)).due(0, x -> x.promised(0)).due(0, x -> x.promised(1))
            .due(0, x -> x.pass(9)).due(0, x -> x.promised(0)).due(1, x -> x.pass(1))
            .due(-1, x -> x.promised(0)).due(-1, x -> x.promised(1));
    }

    @Sentence(ALL_PROMISED)
    static void promise11_asLongAsItIsFirmOrUnderWay() {
        new Scene().wagons(2, 0, 0).firm(2, 0, 1, 0).due(0, x -> x.promised(0)).due(0, x -> x.promised(1))
            .due(0, x -> x.pass(100)).due(0, x -> x.promised(0))
            .due(0, x -> x.depart(0, 0, 2)).due(0, x -> x.promised(0)).due(0, x -> x.promised(1))
            .due(2, x -> x.arrive(0, 0)).due(-1, x -> x.promised(0)).due(-1, x -> x.promised(1));
    }

    @Sentence(ALL_PROMISED)
    static void promise11_noMoreWhenItIsVoid() {
        new Scene().wagons(2, 0, 0).asked(2, 0, 1, 0).due(2, x -> x.hangUp(0))
            .due(-1, x -> x.promised(0)).due(-1, x -> x.promised(1))
            .firm(2, 0, 1, 0).due(1, x -> x.promised(0)).done(x -> x.call(1, 0)).due(2, x -> x.cancel(2, 1))
            .due(-1, x -> x.promised(0)).due(-1, x -> x.promised(1));
    }

    @Sentence("Callers place and shunt wagons, let customers call, ask, confirm and hang up, cut trunks, and send trains,"
        + " and ask; no wagon is promised twice; what stands on tracks is kept, and found by replay of all that"
        + " happened.")
    static void promise11_noWagonIsPromisedTwice() {
        new Scene().wagons(2, 0, 0).due(1, x -> x.setLines(0, 3)).asked(1, 0, 0, 0).asked(1, 0, 3, 0)
            .due(1, x -> x.wagonOf(0, 0)).due(0, x -> x.wagonOf(1, 0)).done(x -> x.call(1, 0))
            .idle(-1, x -> x.ask(2, 0)).due(0, x -> x.promised(1)).due(1, x -> x.promised(0))
            .due(0, x -> x.confirm(0)).idle(-1, x -> x.ask(0, 0)).idle(-1, x -> x.ask(2, 0));
    }

    @Sentence(NO_WAGON)
    static void promise11_refusesNumbersOfNoWagon() {
        new Scene().refused(INDEX, x -> x.promised(0)).wagons(1, 1, 4).due(-1, x -> x.promised(0))
            .outside(INDEX, 0, 0, (x, wagon) -> x.promised(wagon))
            .wagons(5, 1, 4).wagons(6, 2, 4).wagons(6, 2, 3).wagons(6, 2, 2).wagons(6, 2, 1)
            .due(-1, x -> x.promised(29)).outside(INDEX, 0, 29, (x, wagon) -> x.promised(wagon));
    }
}
