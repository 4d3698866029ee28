/** Promises 12 to 20. */
final class CallTests {
    private CallTests() {
    }

    /** Three wagons on track 0 of yard 0, and a call 0 of customer 1 to it. */
    private static Scene threeWagonsAndACall() {
        return new Scene()
            .due(0, x -> x.wagon(0, 0)).due(1, x -> x.wagon(0, 0)).due(2, x -> x.wagon(0, 0))
            .due(0, x -> x.call(1, 0));
    }

    static void promise12_takesNoTrunkAtTheOwnExchange() {
        for (int customer = 0; customer < 6; customer++) {
            int c = customer;
            new Scene()
                .due(0, x -> x.call(c, c % 3)).due(0, x -> x.way(0)).due(0, x -> x.callOf(c))
                .due(-1, x -> x.trunk(0, 1, 0)).due(-1, x -> x.trunk(0, 2, 0)).due(-1, x -> x.trunk(1, 2, 0));
        }
    }

    static void promise12_takesTheLowestDirectTrunk() {
        for (int customer = 0; customer < 6; customer++) {
            int c = customer;
            for (int y : new int[] {(c + 1) % 3, (c + 2) % 3}) {
                int home = c % 3;
                new Scene()
                    .due(0, x -> x.call(c, y)).due(1, x -> x.way(0)).due(0, x -> x.trunk(home, y, 0))
                    .due(-1, x -> x.trunk(home, y, 1)).due(-1, x -> x.trunk(y, 3 - home - y, 0))
                    .due(0, x -> x.hangUp(0)).due(-1, x -> x.cut(y, home, 0))
                    .due(1, x -> x.call(c, y)).due(1, x -> x.way(1)).due(1, x -> x.trunk(y, home, 1));
            }
        }
    }

    static void promise12_goesOverTheThirdExchange() {
        for (int home = 0; home < 3; home++) {
            for (int y : new int[] {(home + 1) % 3, (home + 2) % 3}) {
                int h = home;
                int third = 3 - h - y;
                new Scene()
                    .due(-1, x -> x.cut(h, y, 0)).due(-1, x -> x.cut(h, y, 1)).due(-1, x -> x.cut(third, y, 0))
                    .due(0, x -> x.call(h, y)).due(2, x -> x.way(0))
                    .due(0, x -> x.trunk(h, third, 0)).due(-1, x -> x.trunk(h, third, 1))
                    .due(0, x -> x.trunk(third, y, 1)).due(-2, x -> x.trunk(third, y, 0));
            }
        }
    }

    static void promise12_isBusyWithoutAWay() {
        new Scene()
            .due(-1, x -> x.cut(0, 1, 0)).due(-1, x -> x.cut(0, 1, 1)).due(-1, x -> x.cut(0, 2, 0))
            .due(-1, x -> x.cut(0, 2, 1))
            .due(-1, x -> x.call(0, 1)).due(1, x -> x.busy()).due(-1, x -> x.callOf(0))
            .due(-1, x -> x.trunk(1, 2, 0))
            .due(-1, x -> x.call(1, 0)).due(2, x -> x.busy()).due(-1, x -> x.trunk(1, 2, 0))
            .mend(0, 2, 1)
            .due(0, x -> x.call(1, 0)).due(2, x -> x.way(0)).due(0, x -> x.trunk(2, 0, 1));
    }

    static void promise12_isBusyWithoutALine() {
        new Scene()
            .due(0, x -> x.call(0, 0)).due(-1, x -> x.call(3, 0)).due(-1, x -> x.call(1, 0))
            .due(-1, x -> x.trunk(0, 1, 0)).due(-1, x -> x.callOf(3)).due(2, x -> x.busy())
            .due(1, x -> x.call(3, 1)).due(1, x -> x.trunk(0, 1, 0))
            .due(0, x -> x.hangUp(0)).due(2, x -> x.call(1, 0));
    }

    static void promise12_refuses() {
        Scene s = new Scene()
            .refused(Scene.ARGUMENT, x -> x.call(-1, 0)).refused(Scene.ARGUMENT, x -> x.call(6, 0))
            .refused(Scene.ARGUMENT, x -> x.call(0, -1)).refused(Scene.ARGUMENT, x -> x.call(0, 3))
            .due(0, x -> x.call(0, 0))
            .refused(Scene.STATE, x -> x.call(0, 0)).refused(Scene.STATE, x -> x.call(0, 1))
            .refused(Scene.ARGUMENT, x -> x.call(0, 3)).due(0, x -> x.busy());
        for (int far : Scene.FAR) {
            s.refused(Scene.ARGUMENT, x -> x.call(far, 0)).refused(Scene.ARGUMENT, x -> x.call(0, far));
        }
    }

    static void promise13_findsTheFewestBeforeTheOpenEnd() {
        new Scene()
            .due(0, x -> x.wagon(2, 0)).due(1, x -> x.wagon(2, 0))
            .due(2, x -> x.wagon(2, 2)).due(3, x -> x.wagon(2, 2)).due(4, x -> x.wagon(2, 2))
            .due(5, x -> x.wagon(2, 1)).due(6, x -> x.wagon(1, 0))
            .due(0, x -> x.call(2, 2))
            .due(1, x -> x.ask(0, 0)).due(5, x -> x.ask(0, 0)).due(4, x -> x.ask(0, 0))
            .due(0, x -> x.ask(0, 0)).due(3, x -> x.ask(0, 0)).due(2, x -> x.ask(0, 0))
            .due(-1, x -> x.ask(0, 0)).due(1, x -> x.bookings()).due(6, x -> x.wagons(0)).due(-1, x -> x.promised(6));
    }

    static void promise13_countsPromisedWagonsBeforeTheOpenEnd() {
        new Scene()
            .due(0, x -> x.wagon(0, 0)).due(1, x -> x.wagon(0, 0)).due(2, x -> x.wagon(0, 0))
            .due(0, x -> x.call(0, 0)).due(2, x -> x.ask(0, 1)).due(1, x -> x.ask(0, 1))
            .due(3, x -> x.wagon(0, 4)).due(4, x -> x.wagon(0, 4))
            .due(4, x -> x.ask(0, 1)).due(3, x -> x.ask(0, 1)).due(0, x -> x.ask(0, 1));
    }

    static void promise13_skipsWhatDoesNotFit() {
        new Scene()
            .due(0, x -> x.wagon(0, 0)).due(0, x -> x.call(0, 0)).due(0, x -> x.ask(0, 0)).due(0, x -> x.confirm(0))
            .due(0, x -> x.depart(0, 0, 1)).due(1, x -> x.wagon(1, 0)).due(2, x -> x.arrive(0, 0))
            .due(0, x -> x.hangUp(0)).due(1, x -> x.call(0, 1))
            .due(1, x -> x.ask(1, 3)).due(-1, x -> x.ask(1, 3)).due(1, x -> x.wagons(1));
    }

    static void promise13_findsNoneOfAnotherYardOrATrain() {
        for (int yard = 0; yard < 3; yard++) {
            int y = yard;
            int next = (y + 1) % 3;
            new Scene()
                .due(0, x -> x.wagon(y, 0)).due(1, x -> x.wagon(next, 0)).due(2, x -> x.wagon((y + 2) % 3, 4))
                .due(0, x -> x.call(y, y)).due(0, x -> x.ask(0, 0)).due(0, x -> x.confirm(0))
                .due(-1, x -> x.ask(0, 0)).due(0, x -> x.depart(y, 0, next)).due(-1, x -> x.ask(0, 0));
        }
    }

    static void promise13_opensAndAdds() {
        threeWagonsAndACall()
            .due(2, x -> x.ask(0, 3)).due(1, x -> x.bookings()).due(0, x -> x.state(0))
            .due(1, x -> x.ask(0, 3)).due(1, x -> x.bookings()).due(2, x -> x.wagons(0))
            .refused(Scene.STATE, x -> x.ask(0, 0))
            .due(0, x -> x.confirm(0)).due(0, x -> x.ask(0, 1)).due(2, x -> x.bookings())
            .due(1, x -> x.promised(0));
    }

    static void promise13_withoutAWagonNothingHappens() {
        new Scene()
            .due(0, x -> x.call(0, 0)).due(-1, x -> x.ask(0, 2)).due(0, x -> x.bookings())
            .refused(Scene.STATE, x -> x.confirm(0))
            .due(0, x -> x.wagon(0, 0)).due(0, x -> x.ask(0, 3)).due(-1, x -> x.ask(0, 3))
            .due(1, x -> x.wagons(0));
    }

    static void promise13_refuses() {
        Scene s = threeWagonsAndACall()
            .refused(Scene.INDEX, x -> x.ask(1, 0)).refused(Scene.INDEX, x -> x.ask(-1, 0))
            .refused(Scene.INDEX, x -> x.ask(1, 9)).refused(Scene.ARGUMENT, x -> x.ask(0, -1))
            .refused(Scene.ARGUMENT, x -> x.ask(0, 4));
        for (int far : Scene.FAR) {
            s.refused(Scene.INDEX, x -> x.ask(far, 0)).refused(Scene.ARGUMENT, x -> x.ask(0, far));
        }
        s.due(0, x -> x.hangUp(0)).refused(Scene.STATE, x -> x.ask(0, 0)).refused(Scene.ARGUMENT, x -> x.ask(0, 4));
        s.due(1, x -> x.call(1, 0)).refused(Scene.STATE, x -> x.ask(0, 0));
    }

    static void promise14_confirms() {
        Scene s = threeWagonsAndACall()
            .refused(Scene.STATE, x -> x.confirm(0))
            .due(2, x -> x.ask(0, 3)).due(0, x -> x.confirm(0)).due(2, x -> x.state(0)).due(0, x -> x.promised(2))
            .refused(Scene.STATE, x -> x.confirm(0))
            .due(1, x -> x.ask(0, 0)).due(1, x -> x.confirm(0)).due(2, x -> x.state(1))
            .due(0, x -> x.hangUp(0)).due(2, x -> x.state(0)).due(2, x -> x.state(1))
            .refused(Scene.STATE, x -> x.confirm(0))
            .refused(Scene.INDEX, x -> x.confirm(1)).refused(Scene.INDEX, x -> x.confirm(-1));
        for (int far : Scene.FAR) {
            s.refused(Scene.INDEX, x -> x.confirm(far));
        }
    }

    static void promise15_takesAHalfBookingUp() {
        threeWagonsAndACall()
            .due(2, x -> x.ask(0, 3)).due(1, x -> x.ask(0, 3)).due(0, x -> x.cut(0, 1, 0)).due(1, x -> x.state(0))
            .due(1, x -> x.call(1, 0)).due(2, x -> x.resume(1, 0)).due(0, x -> x.state(0))
            .refused(Scene.STATE, x -> x.resume(1, 0))
            .refused(Scene.STATE, x -> x.ask(1, 2)).due(0, x -> x.ask(1, 3)).due(3, x -> x.wagons(0))
            .due(0, x -> x.confirm(1)).refused(Scene.STATE, x -> x.resume(1, 0));
    }

    static void promise15_anOpenBookingIsInTheWay() {
        threeWagonsAndACall()
            .due(2, x -> x.ask(0, 3)).due(0, x -> x.cut(0, 1, 0)).due(1, x -> x.call(1, 0))
            .due(1, x -> x.ask(1, 3)).refused(Scene.STATE, x -> x.resume(1, 0))
            .due(1, x -> x.confirm(1)).due(1, x -> x.resume(1, 0));
    }

    static void promise15_ofTheSameCustomerAndYard() {
        threeWagonsAndACall()
            .due(3, x -> x.wagon(1, 0)).due(1, x -> x.setLines(0, 3))
            .due(2, x -> x.ask(0, 3)).due(0, x -> x.cut(0, 1, 0))
            .due(1, x -> x.call(4, 0)).refused(Scene.STATE, x -> x.resume(1, 0))
            .due(2, x -> x.call(1, 1)).refused(Scene.STATE, x -> x.resume(2, 0))
            .due(0, x -> x.hangUp(2)).refused(Scene.STATE, x -> x.resume(2, 0))
            .refused(Scene.STATE, x -> x.resume(0, 0))
            .due(3, x -> x.call(1, 0)).due(1, x -> x.resume(3, 0));
    }

    static void promise15_refuses() {
        Scene s = threeWagonsAndACall()
            .due(2, x -> x.ask(0, 3)).refused(Scene.STATE, x -> x.resume(0, 0))
            .refused(Scene.INDEX, x -> x.resume(1, 0)).refused(Scene.INDEX, x -> x.resume(-1, 0))
            .refused(Scene.INDEX, x -> x.resume(0, 1)).refused(Scene.INDEX, x -> x.resume(0, -1))
            .due(0, x -> x.cut(0, 1, 0)).refused(Scene.INDEX, x -> x.resume(0, 1))
            .due(0, x -> x.pass(9)).due(1, x -> x.call(1, 0)).due(1, x -> x.pass(1))
            .refused(Scene.STATE, x -> x.resume(1, 0));
        for (int far : Scene.FAR) {
            s.refused(Scene.INDEX, x -> x.resume(far, 0)).refused(Scene.INDEX, x -> x.resume(0, far));
        }
    }

    static void promise16_cancelsAFirmBooking() {
        threeWagonsAndACall()
            .due(2, x -> x.ask(0, 3)).due(1, x -> x.ask(0, 3)).refused(Scene.STATE, x -> x.cancel(0, 0))
            .due(0, x -> x.confirm(0)).due(2, x -> x.cancel(0, 0)).due(5, x -> x.state(0))
            .due(-1, x -> x.promised(2)).due(-1, x -> x.promised(1)).due(2, x -> x.wagons(0))
            .due(1, x -> x.wagonOf(0, 1))
            .refused(Scene.STATE, x -> x.cancel(0, 0)).due(2, x -> x.ask(0, 1));
    }

    static void promise16_anOpenBookingIsNotInTheWay() {
        threeWagonsAndACall()
            .due(2, x -> x.ask(0, 3)).due(0, x -> x.confirm(0)).due(1, x -> x.ask(0, 1))
            .due(1, x -> x.cancel(0, 0)).due(0, x -> x.state(1)).due(1, x -> x.confirm(0));
    }

    static void promise16_ofTheSameCustomerAndYard() {
        threeWagonsAndACall()
            .due(1, x -> x.setLines(0, 3))
            .due(2, x -> x.ask(0, 3)).due(0, x -> x.confirm(0))
            .due(1, x -> x.call(4, 0)).refused(Scene.STATE, x -> x.cancel(1, 0))
            .due(0, x -> x.hangUp(0)).refused(Scene.STATE, x -> x.cancel(0, 0))
            .due(2, x -> x.call(1, 1)).refused(Scene.STATE, x -> x.cancel(2, 0))
            .due(0, x -> x.hangUp(2)).due(3, x -> x.call(1, 0)).due(1, x -> x.cancel(3, 0));
    }

    static void promise16_refuses() {
        Scene s = threeWagonsAndACall()
            .due(2, x -> x.ask(0, 3)).due(0, x -> x.confirm(0))
            .refused(Scene.INDEX, x -> x.cancel(1, 0)).refused(Scene.INDEX, x -> x.cancel(-1, 0))
            .refused(Scene.INDEX, x -> x.cancel(0, 1)).refused(Scene.INDEX, x -> x.cancel(0, -1))
            .due(1, x -> x.shunt(0, 0, 1, 1)).due(0, x -> x.depart(0, 1, 1)).refused(Scene.STATE, x -> x.cancel(0, 0))
            .due(1, x -> x.arrive(0, 0)).refused(Scene.STATE, x -> x.cancel(0, 0))
            .due(1, x -> x.ask(0, 1)).due(0, x -> x.cut(0, 1, 0)).due(1, x -> x.call(1, 0))
            .refused(Scene.STATE, x -> x.cancel(1, 1))
            .due(0, x -> x.hangUp(1)).refused(Scene.INDEX, x -> x.cancel(1, 2));
        for (int far : Scene.FAR) {
            s.refused(Scene.INDEX, x -> x.cancel(far, 0)).refused(Scene.INDEX, x -> x.cancel(0, far));
        }
    }

    static void promise17_hangsUp() {
        Scene s = threeWagonsAndACall()
            .due(2, x -> x.ask(0, 3)).due(0, x -> x.confirm(0)).due(1, x -> x.ask(0, 1)).due(0, x -> x.ask(0, 1))
            .due(2, x -> x.hangUp(0)).due(5, x -> x.state(1)).due(2, x -> x.state(0))
            .due(-1, x -> x.promised(1)).due(-1, x -> x.promised(0)).due(0, x -> x.promised(2))
            .due(-1, x -> x.callOf(1)).due(-1, x -> x.trunk(0, 1, 0))
            .refused(Scene.STATE, x -> x.hangUp(0)).refused(Scene.INDEX, x -> x.hangUp(1))
            .refused(Scene.INDEX, x -> x.hangUp(-1))
            .due(1, x -> x.call(1, 0)).due(0, x -> x.hangUp(1)).due(2, x -> x.call(4, 0));
        for (int far : Scene.FAR) {
            s.refused(Scene.INDEX, x -> x.hangUp(far));
        }
    }

    static void promise17_freesBothTrunks() {
        new Scene()
            .due(-1, x -> x.cut(0, 1, 0)).due(-1, x -> x.cut(0, 1, 1)).due(0, x -> x.call(1, 0))
            .due(0, x -> x.trunk(1, 2, 0)).due(0, x -> x.trunk(0, 2, 0)).due(0, x -> x.hangUp(0))
            .due(-1, x -> x.trunk(1, 2, 0)).due(-1, x -> x.trunk(0, 2, 0)).due(-2, x -> x.trunk(0, 1, 0));
    }

    static void promise18_tellsTheCallThatGoesOn() {
        Scene s = new Scene()
            .due(0, x -> x.call(5, 0)).due(1, x -> x.call(4, 1)).due(0, x -> x.callOf(5)).due(1, x -> x.callOf(4))
            .due(-1, x -> x.callOf(0)).due(0, x -> x.cut(0, 2, 0)).due(-1, x -> x.callOf(5))
            .due(2, x -> x.call(5, 0)).due(2, x -> x.callOf(5)).due(0, x -> x.hangUp(1)).due(-1, x -> x.callOf(4))
            .refused(Scene.ARGUMENT, x -> x.callOf(-1)).refused(Scene.ARGUMENT, x -> x.callOf(6));
        for (int far : Scene.FAR) {
            s.refused(Scene.ARGUMENT, x -> x.callOf(far));
        }
    }

    static void promise19_countsTrunks() {
        Scene s = new Scene()
            .due(1, x -> x.setLines(0, 3)).due(-1, x -> x.cut(0, 1, 1))
            .due(0, x -> x.call(0, 0)).due(1, x -> x.call(1, 0)).due(2, x -> x.call(4, 0))
            .due(0, x -> x.way(0)).due(1, x -> x.way(1)).due(2, x -> x.way(2))
            .due(0, x -> x.hangUp(2)).refused(Scene.STATE, x -> x.way(2))
            .due(1, x -> x.cut(0, 1, 0)).refused(Scene.STATE, x -> x.way(1))
            .refused(Scene.INDEX, x -> x.way(3)).refused(Scene.INDEX, x -> x.way(-1));
        for (int far : Scene.FAR) {
            s.refused(Scene.INDEX, x -> x.way(far));
        }
    }

    static void promise20_countsBusyCalls() {
        new Scene()
            .due(0, x -> x.call(0, 0)).due(0, x -> x.busy())
            .due(-1, x -> x.call(3, 0)).due(-1, x -> x.call(3, 0)).due(2, x -> x.busy())
            .refused(Scene.STATE, x -> x.call(0, 0)).refused(Scene.ARGUMENT, x -> x.call(6, 0)).due(2, x -> x.busy())
            .due(0, x -> x.hangUp(0)).due(1, x -> x.call(3, 0)).due(2, x -> x.busy());
    }
}
