/** Promises 1 to 11. */
final class YardTests {
    private YardTests() {
    }

    /** A scene in which a wagon 0 stands in yard 1, on track 0, and has carried the grain. */
    private static Scene carriedTo(int grain) {
        return new Scene()
            .due(0, x -> x.wagon(0, 0))
            .due(0, x -> x.call(0, 0))
            .due(0, x -> x.ask(0, grain))
            .due(0, x -> x.confirm(0))
            .due(0, x -> x.hangUp(0))
            .due(0, x -> x.depart(0, 0, 1))
            .due(1, x -> x.arrive(0, 0));
    }

    static void promise01_beginsWithoutWagonsAndCalls() {
        Scene s = new Scene();
        for (int row = 0; row < 15; row++) {
            int yard = row / 5;
            int track = row % 5;
            s.due(0, x -> x.on(yard, track));
        }
        for (int customer = 0; customer < 6; customer++) {
            int c = customer;
            s.due(-1, x -> x.callOf(c));
        }
        for (int trunk = 0; trunk < 2; trunk++) {
            int t = trunk;
            s.due(-1, x -> x.trunk(0, 1, t)).due(-1, x -> x.trunk(0, 2, t)).due(-1, x -> x.trunk(1, 2, t));
        }
        s.due(0, x -> x.busy()).due(0, x -> x.bookings()).due(0, x -> x.trains());
        s.refused(Scene.INDEX, x -> x.where(0)).refused(Scene.INDEX, x -> x.way(0));
        s.refused(Scene.INDEX, x -> x.state(0)).refused(Scene.INDEX, x -> x.arrive(0, 0));
        for (int yard = 0; yard < 3; yard++) {
            int y = yard;
            s.due(1, x -> x.setLines(y, 1));
        }
    }

    static void promise01_grainsMayNotFollowAtFirst() {
        for (int pair = 0; pair < 16; pair++) {
            int first = pair / 4;
            int next = pair % 4;
            carriedTo(first)
                .due(1, x -> x.call(1, 1))
                .due(first == next ? 0 : -1, x -> x.ask(1, next));
        }
    }

    static void promise02_placesAtTheOpenEnd() {
        new Scene()
            .due(0, x -> x.wagon(0, 0)).due(1, x -> x.wagon(2, 4)).due(2, x -> x.wagon(0, 0))
            .due(3, x -> x.wagon(1, 3)).due(4, x -> x.wagon(0, 0))
            .due(0, x -> x.at(0, 0, 0)).due(2, x -> x.at(0, 0, 1)).due(4, x -> x.at(0, 0, 2))
            .due(1, x -> x.at(2, 4, 0)).due(3, x -> x.at(1, 3, 0)).due(3, x -> x.on(0, 0))
            .due(-1, x -> x.carried(4)).due(-1, x -> x.promised(4));
    }

    static void promise02_refusesWrongPlaces() {
        Scene s = new Scene()
            .refused(Scene.ARGUMENT, x -> x.wagon(-1, 0)).refused(Scene.ARGUMENT, x -> x.wagon(3, 0))
            .refused(Scene.ARGUMENT, x -> x.wagon(0, -1)).refused(Scene.ARGUMENT, x -> x.wagon(0, 5));
        for (int far : Scene.FAR) {
            s.refused(Scene.ARGUMENT, x -> x.wagon(far, 0)).refused(Scene.ARGUMENT, x -> x.wagon(0, far));
        }
    }

    static void promise02_aTrackHasRoomForSix() {
        Scene s = new Scene();
        for (int wagon = 0; wagon < 6; wagon++) {
            s.due(wagon, x -> x.wagon(1, 2));
        }
        s.refused(Scene.STATE, x -> x.wagon(1, 2)).due(6, x -> x.on(1, 2)).due(6, x -> x.wagon(1, 3));
    }

    static void promise03_shuntsInTheirOrder() {
        new Scene()
            .due(0, x -> x.wagon(1, 0)).due(1, x -> x.wagon(1, 0)).due(2, x -> x.wagon(1, 0))
            .due(3, x -> x.wagon(1, 4))
            .due(3, x -> x.shunt(1, 0, 4, 2))
            .due(1, x -> x.on(1, 0)).due(0, x -> x.at(1, 0, 0))
            .due(3, x -> x.at(1, 4, 0)).due(1, x -> x.at(1, 4, 1)).due(2, x -> x.at(1, 4, 2))
            .due(14, x -> x.where(1)).due(10, x -> x.where(0))
            .due(1, x -> x.shunt(1, 0, 1, 1)).due(0, x -> x.on(1, 0)).due(0, x -> x.on(0, 1));
    }

    static void promise03_shuntsAWholeTrack() {
        Scene s = new Scene();
        for (int wagon = 0; wagon < 6; wagon++) {
            s.due(wagon, x -> x.wagon(2, 3));
        }
        s.due(6, x -> x.shunt(2, 3, 0, 6)).due(0, x -> x.on(2, 3));
        for (int place = 0; place < 6; place++) {
            int p = place;
            s.due(p, x -> x.at(2, 0, p)).due(p, x -> x.atByReplay(2, 0, p));
        }
    }

    static void promise03_refuses() {
        Scene s = new Scene().due(0, x -> x.wagon(0, 0)).due(1, x -> x.wagon(0, 0));
        s.refused(Scene.ARGUMENT, x -> x.shunt(-1, 0, 1, 1)).refused(Scene.ARGUMENT, x -> x.shunt(3, 0, 1, 1));
        s.refused(Scene.ARGUMENT, x -> x.shunt(0, -1, 1, 1)).refused(Scene.ARGUMENT, x -> x.shunt(0, 5, 1, 1));
        s.refused(Scene.ARGUMENT, x -> x.shunt(0, 0, -1, 1)).refused(Scene.ARGUMENT, x -> x.shunt(0, 0, 5, 1));
        s.refused(Scene.ARGUMENT, x -> x.shunt(0, 0, 1, 0)).refused(Scene.ARGUMENT, x -> x.shunt(0, 0, 1, 7));
        s.refused(Scene.ARGUMENT, x -> x.shunt(0, 0, 0, 1)).refused(Scene.ARGUMENT, x -> x.shunt(0, 1, 1, 6));
        s.refused(Scene.STATE, x -> x.shunt(0, 0, 1, 3)).refused(Scene.STATE, x -> x.shunt(0, 1, 0, 1));
        for (int far : Scene.FAR) {
            s.refused(Scene.ARGUMENT, x -> x.shunt(far, 0, 1, 1)).refused(Scene.ARGUMENT, x -> x.shunt(0, far, 1, 1));
            s.refused(Scene.ARGUMENT, x -> x.shunt(0, 0, far, 1)).refused(Scene.ARGUMENT, x -> x.shunt(0, 0, 1, far));
        }
        for (int wagon = 2; wagon < 7; wagon++) {
            s.due(wagon, x -> x.wagon(0, 1));
        }
        s.refused(Scene.STATE, x -> x.shunt(0, 0, 1, 2)).due(6, x -> x.shunt(0, 0, 1, 1));
        s.refused(Scene.STATE, x -> x.shunt(0, 0, 1, 1));
    }

    static void promise04_washesTheLastOfTrackZero() {
        carriedTo(3)
            .due(3, x -> x.carried(0))
            .due(3, x -> x.wash(1)).due(-1, x -> x.carried(0)).due(-1, x -> x.wash(1))
            .due(10, x -> x.where(0));
    }

    static void promise04_washesNoOther() {
        carriedTo(2)
            .due(1, x -> x.wagon(1, 0)).due(-1, x -> x.wash(1)).due(2, x -> x.carried(0))
            .due(1, x -> x.shunt(1, 0, 1, 1)).due(1, x -> x.shunt(1, 0, 2, 1))
            .refused(Scene.STATE, x -> x.wash(1))
            .refused(Scene.STATE, x -> x.wash(0))
            .refused(Scene.ARGUMENT, x -> x.wash(-1)).refused(Scene.ARGUMENT, x -> x.wash(3))
            .refused(Scene.ARGUMENT, x -> x.wash(Integer.MIN_VALUE))
            .refused(Scene.ARGUMENT, x -> x.wash(Integer.MAX_VALUE));
    }

    static void promise04_aWashedWagonFitsAllGrainsAndStaysPromised() {
        carriedTo(0)
            .due(1, x -> x.call(1, 1)).due(-1, x -> x.ask(1, 1))
            .due(0, x -> x.wash(1)).due(0, x -> x.ask(1, 1))
            .due(-1, x -> x.wash(1)).due(1, x -> x.promised(0));
    }

    static void promise05_letsFollowOneWay() {
        carriedTo(1)
            .due(1, x -> x.call(4, 1))
            .follow(2, 1).due(-1, x -> x.ask(1, 2))
            .follow(1, 3).due(-1, x -> x.ask(1, 2))
            .follow(1, 2).due(0, x -> x.ask(1, 2));
    }

    static void promise05_letsFollowNoMore() {
        carriedTo(1)
            .due(1, x -> x.call(4, 1))
            .follow(1, 2).due(0, x -> x.follow(1, 2) ? 1 : 0)
            .due(-1, x -> x.ask(1, 2)).due(0, x -> x.ask(1, 1)).due(1, x -> x.carried(0));
    }

    static void promise05_refuses() {
        Scene s = new Scene()
            .refused(Scene.ARGUMENT, x -> x.follow(-1, 0) ? 1 : 0).refused(Scene.ARGUMENT, x -> x.follow(4, 0) ? 1 : 0)
            .refused(Scene.ARGUMENT, x -> x.follow(0, -1) ? 1 : 0).refused(Scene.ARGUMENT, x -> x.follow(0, 4) ? 1 : 0);
        for (int grain = 0; grain < 4; grain++) {
            int g = grain;
            s.refused(Scene.ARGUMENT, x -> x.follow(g, g) ? 1 : 0);
        }
        for (int far : Scene.FAR) {
            s.refused(Scene.ARGUMENT, x -> x.follow(far, 0) ? 1 : 0);
            s.refused(Scene.ARGUMENT, x -> x.follow(0, far) ? 1 : 0);
        }
    }

    static void promise06_countsATrack() {
        Scene s = new Scene()
            .due(0, x -> x.wagon(2, 1)).due(1, x -> x.wagon(2, 1)).due(2, x -> x.wagon(2, 2))
            .due(2, x -> x.on(2, 1)).due(1, x -> x.on(2, 2)).due(0, x -> x.on(1, 1)).due(0, x -> x.on(0, 1))
            .refused(Scene.ARGUMENT, x -> x.on(-1, 0)).refused(Scene.ARGUMENT, x -> x.on(3, 0))
            .refused(Scene.ARGUMENT, x -> x.on(0, -1)).refused(Scene.ARGUMENT, x -> x.on(0, 5));
        for (int far : Scene.FAR) {
            s.refused(Scene.ARGUMENT, x -> x.on(far, 0)).refused(Scene.ARGUMENT, x -> x.on(0, far));
        }
    }

    static void promise07_countsPlacesFromTheClosedEnd() {
        Scene s = new Scene()
            .due(0, x -> x.wagon(1, 1)).due(1, x -> x.wagon(1, 1))
            .due(0, x -> x.at(1, 1, 0)).due(1, x -> x.at(1, 1, 1))
            .refused(Scene.INDEX, x -> x.at(1, 1, 2)).refused(Scene.INDEX, x -> x.at(1, 1, -1))
            .refused(Scene.INDEX, x -> x.at(1, 0, 0))
            .refused(Scene.ARGUMENT, x -> x.at(3, 0, 0)).refused(Scene.ARGUMENT, x -> x.at(-1, 0, 0))
            .refused(Scene.ARGUMENT, x -> x.at(0, 5, 0)).refused(Scene.ARGUMENT, x -> x.at(0, -1, -1));
        for (int far : Scene.FAR) {
            s.refused(Scene.INDEX, x -> x.at(1, 1, far)).refused(Scene.ARGUMENT, x -> x.at(far, 1, 0));
            s.refused(Scene.ARGUMENT, x -> x.at(1, far, far));
        }
    }

    static void promise08_replaysPlacingsAndShuntings() {
        Scene s = new Scene()
            .due(0, x -> x.wagon(1, 1)).due(1, x -> x.wagon(1, 1)).due(2, x -> x.wagon(1, 2))
            .due(3, x -> x.shunt(1, 1, 2, 2))
            .due(2, x -> x.atByReplay(1, 2, 0)).due(0, x -> x.atByReplay(1, 2, 1)).due(1, x -> x.atByReplay(1, 2, 2))
            .due(2, x -> x.atByReplay(1, 2, 0))
            .refused(Scene.INDEX, x -> x.atByReplay(1, 2, 3)).refused(Scene.INDEX, x -> x.atByReplay(1, 2, -1))
            .refused(Scene.INDEX, x -> x.atByReplay(1, 1, 0))
            .refused(Scene.ARGUMENT, x -> x.atByReplay(3, 0, 0)).refused(Scene.ARGUMENT, x -> x.atByReplay(-1, 0, 0))
            .refused(Scene.ARGUMENT, x -> x.atByReplay(0, 5, 0)).refused(Scene.ARGUMENT, x -> x.atByReplay(0, -1, -1));
        for (int far : Scene.FAR) {
            s.refused(Scene.INDEX, x -> x.atByReplay(1, 2, far)).refused(Scene.ARGUMENT, x -> x.atByReplay(far, 1, 0));
            s.refused(Scene.ARGUMENT, x -> x.atByReplay(1, far, far));
        }
    }

    static void promise08_replaysDeparturesAndArrivals() {
        new Scene()
            .due(0, x -> x.wagon(0, 3)).due(1, x -> x.wagon(0, 3)).due(2, x -> x.wagon(2, 2))
            .due(0, x -> x.call(0, 0)).due(1, x -> x.ask(0, 0)).due(0, x -> x.ask(0, 0)).due(0, x -> x.confirm(0))
            .due(0, x -> x.depart(0, 3, 2))
            .refused(Scene.INDEX, x -> x.atByReplay(0, 3, 0))
            .due(2, x -> x.atByReplay(2, 2, 0)).refused(Scene.INDEX, x -> x.atByReplay(2, 2, 1))
            .due(3, x -> x.arrive(0, 2))
            .due(2, x -> x.atByReplay(2, 2, 0)).due(0, x -> x.atByReplay(2, 2, 1)).due(1, x -> x.atByReplay(2, 2, 2));
    }

    static void promise09_tellsYardAndTrack() {
        Scene s = new Scene();
        for (int row = 0; row < 15; row++) {
            int yard = row / 5;
            int track = row % 5;
            int wagon = row;
            s.due(wagon, x -> x.wagon(yard, track)).due(10 * yard + track, x -> x.where(wagon));
        }
        s.refused(Scene.INDEX, x -> x.where(15)).refused(Scene.INDEX, x -> x.where(-1));
        for (int far : Scene.FAR) {
            s.refused(Scene.INDEX, x -> x.where(far));
        }
    }

    static void promise09_aWagonWithATrainIsNowhere() {
        new Scene()
            .due(0, x -> x.wagon(0, 0)).due(0, x -> x.call(0, 0)).due(0, x -> x.ask(0, 0)).due(0, x -> x.confirm(0))
            .due(0, x -> x.where(0)).due(0, x -> x.depart(0, 0, 1)).due(-1, x -> x.where(0))
            .due(1, x -> x.arrive(0, 3)).due(13, x -> x.where(0));
    }

    static void promise10_tellsTheLastGrain() {
        Scene s = carriedTo(2)
            .due(1, x -> x.wagon(1, 1)).due(2, x -> x.carried(0)).due(-1, x -> x.carried(1))
            .follow(2, 0).due(1, x -> x.call(1, 1)).due(0, x -> x.ask(1, 0)).due(1, x -> x.confirm(1))
            .due(2, x -> x.carried(0)).due(1, x -> x.depart(1, 0, 0)).due(0, x -> x.carried(0))
            .refused(Scene.INDEX, x -> x.carried(2)).refused(Scene.INDEX, x -> x.carried(-1));
        for (int far : Scene.FAR) {
            s.refused(Scene.INDEX, x -> x.carried(far));
        }
    }

    static void promise11_promisedFromOpenToUnderWay() {
        Scene s = new Scene()
            .due(0, x -> x.wagon(0, 0)).due(1, x -> x.wagon(0, 1)).due(-1, x -> x.promised(0))
            .due(0, x -> x.call(1, 0)).due(0, x -> x.ask(0, 0)).due(0, x -> x.promised(0)).due(-1, x -> x.promised(1))
            .due(0, x -> x.cut(0, 1, 0)).due(0, x -> x.promised(0))
            .due(1, x -> x.call(1, 0)).due(1, x -> x.resume(1, 0)).due(0, x -> x.promised(0))
            .due(0, x -> x.confirm(1)).due(0, x -> x.promised(0))
            .due(0, x -> x.depart(0, 0, 1)).due(0, x -> x.promised(0))
            .due(1, x -> x.arrive(0, 0)).due(-1, x -> x.promised(0))
            .refused(Scene.INDEX, x -> x.promised(2)).refused(Scene.INDEX, x -> x.promised(-1));
        for (int far : Scene.FAR) {
            s.refused(Scene.INDEX, x -> x.promised(far));
        }
    }
}
