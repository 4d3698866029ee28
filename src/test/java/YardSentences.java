/** Promises 1 to 5, sentence by sentence. */
final class YardSentences extends Sentences {
    private YardSentences() {
    }

    private static long flag(boolean may) {
        return may ? 1 : 0;
    }

    // ---- promise 1

    @Sentence("Begins without wagons and calls.")
    static void promise01_beginsWithoutWagons() {
        Scene s = new Scene().refused(INDEX, x -> x.where(0));
        s.refused(INDEX, x -> x.carried(0)).refused(INDEX, x -> x.promised(0));
        for (int row = 0; row < 15; row++) {
            int yard = row / 5;
            int track = row % 5;
            s.due(0, x -> x.on(yard, track)).refused(INDEX, x -> x.at(yard, track, 0));
            s.refused(INDEX, x -> x.atByReplay(yard, track, 0));
        }
    }

    @Sentence("Begins without wagons and calls.")
    static void promise01_beginsWithoutCalls() {
        Scene s = new Scene().due(0, x -> x.busy()).due(0, x -> x.bookings()).due(0, x -> x.trains());
        s.refused(INDEX, x -> x.way(0)).refused(INDEX, x -> x.hangUp(0)).refused(INDEX, x -> x.confirm(0));
        for (int customer = 0; customer < 6; customer++) {
            int c = customer;
            s.due(-1, x -> x.callOf(c));
        }
    }

    @Sentence("Begins without wagons and calls.")
    static void promise01_beginsSoBesideAnotherObject() {
        TrunkYards used = new TrunkYards();
        used.wagon(0, 0);
        used.call(0, 0);
        used.ask(0, 0);
        used.follow(0, 1);
        used.cut(0, 1, 0);
        used.setLines(2, 3);
        used.depart(0, 0, used.confirm(0) + 1);
        new Scene().due(0, x -> x.on(0, 0)).due(-1, x -> x.callOf(0)).due(0, x -> x.bookings()).due(0, x -> x.trains())
            .due(-1, x -> x.trunk(0, 1, 0)).due(1, x -> x.setLines(2, 1)).due(1, x -> flag(x.follow(0, 1)))
            .due(0, x -> x.wagon(0, 0)).due(0, x -> x.call(0, 0)).due(0, x -> x.ask(0, 3)).due(0, x -> x.confirm(0));
        if (used.where(0) != -1 || used.callOf(0) != 0 || used.trunk(1, 0, 0) != -2) {
            throw new AssertionError("the other object has changed");
        }
    }

    @Sentence("An object is used for at most 512 calls after it has been made; what later calls answer is free.")
    static void promise01_the512thCallIsAnswered() {
        Scene s = new Scene().due(0, x -> x.wagon(0, 0)).due(1, x -> x.wagon(0, 0));
        for (int i = 0; i < 509; i++) {
            int from = i % 5;
            int to = (i + 1) % 5;
            s.due(2, x -> x.shunt(0, from, to, 2));
        }
        s.due(1, x -> x.atByReplay(0, 4, 1));
    }

    // ---- promise 2

    @Sentence("There are the yards 0 to 2, each with the tracks 0 to 4, and the grains 0 to 3.")
    static void promise02_eachYardHasItsFiveTracks() {
        Scene s = new Scene();
        for (int row = 0; row < 15; row++) {
            int yard = row / 5;
            int track = row % 5;
            s.wagons(1, yard, track);
        }
        for (int row = 0; row < 15; row++) {
            int yard = row / 5;
            int track = row % 5;
            s.due(1, x -> x.on(yard, track)).due(row, x -> x.at(yard, track, 0));
        }
        s.refused(ARGUMENT, x -> x.wagon(3, 0)).refused(ARGUMENT, x -> x.wagon(0, 5));
    }

    @Sentence("Places a new wagon at the open end of a track.")
    static void promise02_placesBehindAllThatStandThere() {
        Scene s = new Scene();
        for (int wagon = 0; wagon < 6; wagon++) {
            int w = wagon;
            s.due(w, x -> x.wagon(1, 3)).due(w, x -> x.at(1, 3, w));
        }
        for (int place = 0; place < 6; place++) {
            int p = place;
            s.due(p, x -> x.at(1, 3, p));
        }
    }

    @Sentence("Places a new wagon at the open end of a track.")
    static void promise02_aNewWagonIsNotPromisedAndCarriedNone() {
        new Scene().wagons(1, 0, 0).firm(1, 0, 0, 0).due(1, x -> x.wagon(0, 0))
            .due(-1, x -> x.promised(1)).due(-1, x -> x.carried(1)).due(0, x -> x.promised(0));
    }

    @Sentence(YARD)
    static void promise02_yard() {
        new Scene().due(0, x -> x.wagon(0, 2)).due(1, x -> x.wagon(2, 2))
            .due(2, x -> x.where(0)).due(22, x -> x.where(1))
            .outside(ARGUMENT, 0, 2, (x, yard) -> x.wagon(yard, 2));
    }

    @Sentence(TRACK)
    static void promise02_track() {
        new Scene().due(0, x -> x.wagon(1, 0)).due(1, x -> x.wagon(1, 4))
            .due(10, x -> x.where(0)).due(14, x -> x.where(1))
            .outside(ARGUMENT, 0, 4, (x, track) -> x.wagon(1, track));
    }

    @Sentence(NUMBER)
    static void promise02_numbersAcrossYards() {
        new Scene().due(0, x -> x.wagon(2, 4)).due(1, x -> x.wagon(0, 0)).due(2, x -> x.wagon(2, 4))
            .refused(ARGUMENT, x -> x.wagon(3, 4)).due(3, x -> x.wagon(1, 1));
    }

    @Sentence(WRONG_TRACK)
    static void promise02_refusesEachAloneAndBoth() {
        new Scene().refused(ARGUMENT, x -> x.wagon(3, 4)).refused(ARGUMENT, x -> x.wagon(-1, 0))
            .refused(ARGUMENT, x -> x.wagon(2, 5)).refused(ARGUMENT, x -> x.wagon(0, -1))
            .refused(ARGUMENT, x -> x.wagon(-1, 5)).refused(ARGUMENT, x -> x.wagon(3, -1));
    }

    @Sentence("Throws `IllegalStateException` if there were 30, or the track has no room")
    static void promise02_refusesAfterThirty() {
        Scene s = new Scene().wagons(6, 0, 0).wagons(6, 0, 1).wagons(6, 1, 2).wagons(6, 1, 3).wagons(5, 2, 4);
        s.due(29, x -> x.wagon(2, 4));
        s.refused(STATE, x -> x.wagon(2, 3)).refused(STATE, x -> x.wagon(0, 4));
    }

    @Sentence("Throws `IllegalStateException` if there were 30, or the track has no room")
    static void promise02_refusesOnAFullTrack() {
        new Scene().wagons(5, 1, 1).due(5, x -> x.wagon(1, 1)).refused(STATE, x -> x.wagon(1, 1))
            .due(6, x -> x.wagon(1, 0)).due(7, x -> x.wagon(1, 2)).due(8, x -> x.wagon(0, 1))
            .refused(STATE, x -> x.wagon(1, 1))
            .due(2, x -> x.shunt(1, 1, 2, 1)).due(9, x -> x.wagon(1, 1)).refused(STATE, x -> x.wagon(1, 1));
    }

    @Sentence("Throws `IllegalStateException` if there were 30, or the track has no room")
    static void promise02_refusesForBothReasons() {
        new Scene().wagons(6, 0, 0).wagons(6, 0, 1).wagons(6, 0, 2).wagons(6, 0, 3).wagons(6, 0, 4)
            .refused(STATE, x -> x.wagon(0, 4)).refused(STATE, x -> x.wagon(1, 0));
    }

    @Sentence("Wagons are numbered from 0 as they are placed, at most 30 ever; a wagon is on a track or with a train.")
    static void promise02_aWagonWithATrainIsOneOfTheThirty() {
        new Scene().wagons(1, 0, 4).firm(1, 0, 0, 0).due(0, x -> x.depart(0, 4, 1))
            .wagons(6, 0, 0).wagons(6, 0, 1).wagons(6, 0, 2).wagons(6, 0, 3).wagons(4, 1, 0)
            .due(29, x -> x.wagon(1, 0)).refused(STATE, x -> x.wagon(1, 1))
            .due(1, x -> x.arrive(0, 4)).refused(STATE, x -> x.wagon(1, 1));
    }

    @Sentence("A track is closed at one end, and has room for 6 wagons, which come and go at its open end;"
        + " places on it are counted from 0 from the closed end.")
    static void promise02_theFirstPlaceIsAtTheClosedEnd() {
        new Scene().wagons(6, 2, 0).due(0, x -> x.at(2, 0, 0)).due(5, x -> x.at(2, 0, 5))
            .due(1, x -> x.shunt(2, 0, 1, 1)).due(5, x -> x.at(2, 1, 0)).due(0, x -> x.at(2, 0, 0))
            .due(6, x -> x.wagon(2, 0)).due(6, x -> x.at(2, 0, 5)).due(0, x -> x.at(2, 0, 0));
    }

    @Sentence(FIRST_OF_SEVERAL)
    static void promise02_aWrongTrackComesFirst() {
        new Scene().wagons(6, 0, 0).wagons(6, 0, 1).wagons(6, 0, 2).wagons(6, 0, 3).wagons(6, 0, 4)
            .refused(ARGUMENT, x -> x.wagon(3, 0)).refused(ARGUMENT, x -> x.wagon(0, 5))
            .refused(ARGUMENT, x -> x.wagon(-1, -1));
    }

    // ---- promise 3

    @Sentence("Shunts wagons.")
    static void promise03_movesWagonsAway() {
        new Scene().wagons(3, 0, 2).due(2, x -> x.shunt(0, 2, 4, 2)).due(1, x -> x.on(0, 2)).due(2, x -> x.on(0, 4))
            .due(2, x -> x.where(0)).due(4, x -> x.where(1)).due(4, x -> x.where(2));
    }

    @Sentence("Shunts wagons.")
    static void promise03_leavesPromisesAndGrains() {
        new Scene().carrier(3, 0, 0).firm(1, 3, 0, 0).due(1, x -> x.shunt(0, 0, 1, 1))
            .due(3, x -> x.carried(0)).due(1, x -> x.promised(0)).due(2, x -> x.state(1)).due(1, x -> x.where(0));
    }

    @Sentence("Shunting takes the last wagons of a track, and puts them onto another one of the yard,"
        + " in the order in which they stood.")
    static void promise03_keepsTheOrder() {
        new Scene().wagons(4, 1, 0).wagons(2, 1, 3).wagons(1, 0, 3).due(5, x -> x.shunt(1, 0, 3, 3))
            .due(0, x -> x.at(1, 0, 0)).due(1, x -> x.on(1, 0)).due(1, x -> x.on(0, 3))
            .due(4, x -> x.at(1, 3, 0)).due(5, x -> x.at(1, 3, 1))
            .due(1, x -> x.at(1, 3, 2)).due(2, x -> x.at(1, 3, 3)).due(3, x -> x.at(1, 3, 4));
    }

    @Sentence("Shunting takes the last wagons of a track, and puts them onto another one of the yard,"
        + " in the order in which they stood.")
    static void promise03_leavesTheOtherTracks() {
        Scene s = new Scene().wagons(3, 1, 0).wagons(3, 1, 1).wagons(3, 1, 2).wagons(3, 1, 3).wagons(3, 1, 4)
            .wagons(3, 2, 0).wagons(3, 0, 4).due(6, x -> x.shunt(1, 0, 1, 3)).due(6, x -> x.shunt(1, 3, 4, 3));
        for (int place = 0; place < 3; place++) {
            int p = place;
            s.due(3 + p, x -> x.at(1, 1, p)).due(p, x -> x.at(1, 1, 3 + p)).due(6 + p, x -> x.at(1, 2, p))
                .due(12 + p, x -> x.at(1, 4, p)).due(9 + p, x -> x.at(1, 4, 3 + p)).due(15 + p, x -> x.at(2, 0, p))
                .due(18 + p, x -> x.at(0, 4, p));
        }
        s.due(3, x -> x.on(1, 2)).due(3, x -> x.on(2, 0)).due(3, x -> x.on(0, 4)).due(0, x -> x.on(1, 0));
    }

    @Sentence(YARD)
    static void promise03_yard() {
        new Scene().wagons(1, 0, 0).wagons(1, 2, 0)
            .due(1, x -> x.shunt(0, 0, 1, 1)).due(1, x -> x.where(0))
            .due(1, x -> x.shunt(2, 0, 1, 1)).due(21, x -> x.where(1))
            .outside(ARGUMENT, 0, 2, (x, yard) -> x.shunt(yard, 1, 2, 1));
    }

    @Sentence("`from`: 0 to 4")
    static void promise03_from() {
        new Scene().wagons(1, 1, 0).wagons(1, 1, 4)
            .due(1, x -> x.shunt(1, 0, 2, 1)).due(12, x -> x.where(0))
            .due(2, x -> x.shunt(1, 4, 2, 1)).due(12, x -> x.where(1))
            .outside(ARGUMENT, 0, 4, (x, from) -> x.shunt(1, from, 2, 1));
    }

    @Sentence("`to`: 0 to 4, another track")
    static void promise03_to() {
        new Scene().wagons(2, 1, 2)
            .due(1, x -> x.shunt(1, 2, 0, 1)).due(10, x -> x.where(1))
            .due(1, x -> x.shunt(1, 2, 4, 1)).due(14, x -> x.where(0))
            .outside(ARGUMENT, 0, 4, (x, to) -> x.shunt(1, 0, to, 1));
    }

    @Sentence("`to`: 0 to 4, another track")
    static void promise03_toAnotherTrack() {
        Scene s = new Scene().wagons(1, 1, 0).wagons(1, 1, 1).wagons(1, 1, 2).wagons(1, 1, 3).wagons(1, 1, 4);
        for (int track = 0; track < 5; track++) {
            int same = track;
            s.refused(ARGUMENT, x -> x.shunt(1, same, same, 1));
        }
    }

    @Sentence("`many`: 1 to 6")
    static void promise03_many() {
        new Scene().wagons(6, 0, 0).due(1, x -> x.shunt(0, 0, 1, 1)).due(1, x -> x.shunt(0, 1, 2, 1))
            .due(6, x -> x.shunt(0, 2, 0, 1)).due(6, x -> x.shunt(0, 0, 3, 6))
            .due(0, x -> x.at(0, 3, 0)).due(5, x -> x.at(0, 3, 5))
            .outside(ARGUMENT, 1, 6, (x, many) -> x.shunt(0, 3, 4, many));
    }

    @Sentence("Returns how many wagons are on the track to then.")
    static void promise03_countsTheTrackTo() {
        new Scene().wagons(6, 0, 0).wagons(2, 0, 1)
            .due(3, x -> x.shunt(0, 0, 1, 1)).due(5, x -> x.shunt(0, 0, 1, 2)).due(6, x -> x.shunt(0, 0, 1, 1))
            .due(1, x -> x.shunt(0, 1, 4, 1)).due(5, x -> x.shunt(0, 1, 0, 3));
    }

    @Sentence("Throws `IllegalArgumentException` if yard, from, to or many is out of range, or both tracks are the same")
    static void promise03_refusesEachAloneAndTogether() {
        new Scene().wagons(2, 0, 0)
            .refused(ARGUMENT, x -> x.shunt(3, 0, 1, 1)).refused(ARGUMENT, x -> x.shunt(0, 5, 1, 1))
            .refused(ARGUMENT, x -> x.shunt(0, 0, 5, 1)).refused(ARGUMENT, x -> x.shunt(0, 0, 1, 7))
            .refused(ARGUMENT, x -> x.shunt(0, 0, 1, 0)).refused(ARGUMENT, x -> x.shunt(0, 0, 0, 1))
            .refused(ARGUMENT, x -> x.shunt(0, 0, 0, 0)).refused(ARGUMENT, x -> x.shunt(3, 5, 5, 7))
            .refused(ARGUMENT, x -> x.shunt(0, -1, -1, 1)).refused(ARGUMENT, x -> x.shunt(-1, 0, 0, 1));
    }

    private static final String SHUNT_STATE =
        "Throws `IllegalStateException` if not so many are on the track from, or the other one has not so much room";

    @Sentence(SHUNT_STATE)
    static void promise03_refusesMoreThanAreThere() {
        new Scene().wagons(2, 2, 1).refused(STATE, x -> x.shunt(2, 1, 3, 3)).refused(STATE, x -> x.shunt(2, 1, 3, 6))
            .due(2, x -> x.shunt(2, 1, 3, 2)).refused(STATE, x -> x.shunt(2, 1, 3, 1))
            .refused(STATE, x -> x.shunt(0, 0, 1, 1));
    }

    @Sentence(SHUNT_STATE)
    static void promise03_refusesMoreThanThereIsRoomFor() {
        new Scene().wagons(6, 1, 0).wagons(4, 1, 1).refused(STATE, x -> x.shunt(1, 0, 1, 3))
            .refused(STATE, x -> x.shunt(1, 0, 1, 6)).due(6, x -> x.shunt(1, 0, 1, 2))
            .refused(STATE, x -> x.shunt(1, 0, 1, 1)).due(4, x -> x.shunt(1, 0, 2, 4));
    }

    @Sentence(SHUNT_STATE)
    static void promise03_refusesForBothReasons() {
        new Scene().wagons(1, 1, 0).wagons(5, 1, 1).refused(STATE, x -> x.shunt(1, 0, 1, 2))
            .due(6, x -> x.shunt(1, 0, 1, 1)).refused(STATE, x -> x.shunt(1, 0, 1, 1));
    }

    @Sentence(FIRST_OF_SEVERAL)
    static void promise03_wrongNumbersComeFirst() {
        new Scene().wagons(6, 0, 1)
            .refused(ARGUMENT, x -> x.shunt(0, 0, 1, 7)).refused(ARGUMENT, x -> x.shunt(0, 0, 0, 2))
            .refused(ARGUMENT, x -> x.shunt(3, 0, 1, 2)).refused(ARGUMENT, x -> x.shunt(0, 1, 1, 6))
            .refused(ARGUMENT, x -> x.shunt(0, 5, 1, 6)).refused(ARGUMENT, x -> x.shunt(0, 0, 5, 6));
    }

    // ---- promise 4

    @Sentence("Washes the wagon at the open end of the track 0 of a yard.")
    static void promise04_washesNeitherTheOnesBehindNorOtherTracks() {
        new Scene().carrier(1, 1, 0).carrier(2, 1, 0).carrier(3, 1, 1).carrier(3, 1, 4)
            .due(2, x -> x.wash(1))
            .due(1, x -> x.carried(0)).due(-1, x -> x.carried(1)).due(3, x -> x.carried(2)).due(3, x -> x.carried(3))
            .due(10, x -> x.where(1)).due(2, x -> x.on(1, 0));
    }

    @Sentence("Washes the wagon at the open end of the track 0 of a yard.")
    static void promise04_washesAPromisedWagonToo() {
        new Scene().carrier(1, 1, 0).asked(1, 1, 1, 1).due(1, x -> x.wash(1)).due(-1, x -> x.carried(0))
            .due(1, x -> x.promised(0)).due(0, x -> x.state(1));
    }

    @Sentence(YARD)
    static void promise04_yard() {
        new Scene().carrier(1, 0, 0).carrier(2, 2, 0).wagons(1, 1, 0).due(1, x -> x.wash(0)).due(2, x -> x.wash(2))
            .due(-1, x -> x.carried(0)).due(-1, x -> x.carried(1))
            .outside(ARGUMENT, 0, 2, (x, yard) -> x.wash(yard));
    }

    @Sentence("Returns the grain that it had carried last, -1 if none.")
    static void promise04_tellsTheGrain() {
        for (int grain = 0; grain < 4; grain++) {
            int g = grain;
            new Scene().carrier(g, 2, 0).due(g, x -> x.wash(2)).due(-1, x -> x.wash(2));
        }
        new Scene().wagons(1, 2, 0).due(-1, x -> x.wash(2));
    }

    @Sentence("Throws `IllegalArgumentException` if yard is out of range")
    static void promise04_refusesAWrongYard() {
        new Scene().carrier(1, 0, 0).carrier(2, 2, 0)
            .refused(ARGUMENT, x -> x.wash(-1)).refused(ARGUMENT, x -> x.wash(3));
    }

    @Sentence("Throws `IllegalStateException` if there is no wagon")
    static void promise04_refusesAnEmptyTrack() {
        new Scene().carrier(1, 0, 0).wagons(1, 0, 1).wagons(1, 1, 0).refused(STATE, x -> x.wash(2))
            .due(2, x -> x.shunt(0, 0, 1, 1)).refused(STATE, x -> x.wash(0)).due(-1, x -> x.wash(1))
            .done(x -> x.call(1, 1)).due(2, x -> x.ask(x.callOf(1), 0)).done(x -> x.confirm(x.callOf(1)))
            .due(1, x -> x.depart(1, 0, 2)).refused(STATE, x -> x.wash(1));
    }

    @Sentence(FIRST_OF_SEVERAL)
    static void promise04_aWrongYardComesFirst() {
        new Scene().refused(STATE, x -> x.wash(0)).refused(ARGUMENT, x -> x.wash(3)).refused(ARGUMENT, x -> x.wash(-1));
    }

    @Sentence("A wagon has carried a grain last, or none, as at first and when it was washed.")
    static void promise04_aWashedWagonHasCarriedNone() {
        new Scene().wagons(1, 0, 1).due(-1, x -> x.carried(0)).carrier(2, 1, 0).due(2, x -> x.carried(1))
            .due(2, x -> x.wash(1)).due(-1, x -> x.carried(1));
    }

    // ---- promise 5

    private static final String FOLLOWS = "Lets the grain next follow the grain first in a wagon, or no more, if it may;"
        + " the other way about is another thing.";

    @Sentence(FOLLOWS)
    static void promise05_nextFitsAWagonOfFirst() {
        new Scene().carrier(1, 0, 0).done(x -> x.call(0, 0)).idle(-1, x -> x.ask(x.callOf(0), 2))
            .due(1, x -> flag(x.follow(1, 2))).due(0, x -> x.ask(x.callOf(0), 2));
    }

    @Sentence(FOLLOWS)
    static void promise05_noMoreTheSecondTime() {
        new Scene().carrier(1, 0, 0).due(1, x -> flag(x.follow(1, 2))).due(0, x -> flag(x.follow(1, 2)))
            .done(x -> x.call(0, 0)).idle(-1, x -> x.ask(x.callOf(0), 2))
            .due(1, x -> flag(x.follow(1, 2))).due(0, x -> x.ask(x.callOf(0), 2));
    }

    @Sentence(FOLLOWS)
    static void promise05_theOtherWayAboutIsAnotherThing() {
        new Scene().carrier(2, 0, 0).due(1, x -> flag(x.follow(1, 2))).done(x -> x.call(0, 0))
            .idle(-1, x -> x.ask(x.callOf(0), 1)).due(1, x -> flag(x.follow(2, 1)))
            .due(0, x -> flag(x.follow(1, 2))).due(0, x -> x.ask(x.callOf(0), 1));
    }

    @Sentence(FOLLOWS)
    static void promise05_leavesWhatIsPromised() {
        new Scene().carrier(1, 0, 0).due(1, x -> flag(x.follow(1, 2))).asked(1, 2, 0, 0)
            .due(0, x -> flag(x.follow(1, 2))).due(1, x -> x.promised(0)).due(1, x -> x.confirm(x.callOf(0)))
            .due(1, x -> x.depart(0, 0, 1)).due(2, x -> x.carried(0));
    }

    @Sentence("A wagon fits a grain, if it carried none or the same last, or if the grain may follow the one that it"
        + " carried; at first no other one may.")
    static void promise05_atFirstNoneButTheSameFits() {
        for (int pair = 0; pair < 16; pair++) {
            int last = pair / 4;
            int next = pair % 4;
            new Scene().carrier(last, 0, 0).done(x -> x.call(0, 0))
                .due(last == next ? 0 : -1, x -> x.ask(x.callOf(0), next));
        }
    }

    @Sentence("A wagon fits a grain, if it carried none or the same last, or if the grain may follow the one that it"
        + " carried; at first no other one may.")
    static void promise05_onlyTheGrainThatMayFollowFits() {
        for (int pair = 0; pair < 16; pair++) {
            int last = pair / 4;
            int next = pair % 4;
            int other = (next + 1) % 4;
            if (last != next) {
                new Scene().carrier(last, 0, 0).follow(last, next).done(x -> x.call(0, 0))
                    .due(other == last ? 0 : -1, x -> x.ask(x.callOf(0), other));
                new Scene().carrier(last, 0, 0).follow(last, next).done(x -> x.call(0, 0))
                    .due(0, x -> x.ask(x.callOf(0), next));
            }
        }
    }

    @Sentence("A wagon fits a grain, if it carried none or the same last, or if the grain may follow the one that it"
        + " carried; at first no other one may.")
    static void promise05_whatFollowsTheFollowerDoesNotFit() {
        new Scene().carrier(0, 1, 0).follow(0, 1).follow(1, 2).done(x -> x.call(1, 1))
            .idle(-1, x -> x.ask(x.callOf(1), 2)).due(0, x -> x.ask(x.callOf(1), 1));
    }

    @Sentence("A wagon fits a grain, if it carried none or the same last, or if the grain may follow the one that it"
        + " carried; at first no other one may.")
    static void promise05_whatCarriedNoneFitsAll() {
        for (int grain = 0; grain < 4; grain++) {
            int g = grain;
            new Scene().wagons(1, 1, 0).done(x -> x.call(1, 1)).due(0, x -> x.ask(0, g));
            new Scene().carrier(3 - g, 1, 0).done(x -> x.wash(1)).done(x -> x.call(1, 1)).due(0, x -> x.ask(1, g));
        }
    }

    @Sentence("`first`: 0 to 3")
    static void promise05_first() {
        new Scene().due(1, x -> flag(x.follow(0, 1))).due(1, x -> flag(x.follow(3, 1)))
            .outside(ARGUMENT, 0, 3, (x, first) -> flag(x.follow(first, 1)));
    }

    @Sentence("`next`: 0 to 3, another one")
    static void promise05_next() {
        Scene s = new Scene().due(1, x -> flag(x.follow(1, 0))).due(1, x -> flag(x.follow(1, 3)))
            .outside(ARGUMENT, 0, 3, (x, next) -> flag(x.follow(1, next)));
        for (int grain = 0; grain < 4; grain++) {
            int same = grain;
            s.refused(ARGUMENT, x -> flag(x.follow(same, same)));
        }
    }

    @Sentence("Returns whether it may then.")
    static void promise05_tellsWhetherItMay() {
        for (int pair = 0; pair < 16; pair++) {
            int first = pair / 4;
            int next = pair % 4;
            if (first != next) {
                new Scene().due(1, x -> flag(x.follow(first, next))).due(0, x -> flag(x.follow(first, next)))
                    .due(1, x -> flag(x.follow(first, next))).due(1, x -> flag(x.follow(next, first)));
            }
        }
    }

    @Sentence("Throws `IllegalArgumentException` if first or next is out of range, or both are the same")
    static void promise05_refusesEachAloneAndTogether() {
        new Scene().refused(ARGUMENT, x -> flag(x.follow(4, 0))).refused(ARGUMENT, x -> flag(x.follow(0, 4)))
            .refused(ARGUMENT, x -> flag(x.follow(2, 2))).refused(ARGUMENT, x -> flag(x.follow(4, 4)))
            .refused(ARGUMENT, x -> flag(x.follow(-1, -1))).refused(ARGUMENT, x -> flag(x.follow(-1, 4)))
            .due(1, x -> flag(x.follow(0, 3))).refused(ARGUMENT, x -> flag(x.follow(0, 4)));
    }
}
