/** Promises 14 to 20, sentence by sentence. */
final class TalkSentences extends Sentences {
    private TalkSentences() {
    }

    /** A booking 0 of customer 1 in yard 0, of the last wagons of three on track 0; half, after a call 0. */
    private static Scene halfOf(int many) {
        return new Scene().wagons(3, 0, 0).half(many, 2, 1, 0).due(1, x -> x.state(0));
    }

    /** As halfOf, but firm. */
    private static Scene firmOf(int many) {
        return new Scene().wagons(3, 0, 0).firm(many, 2, 1, 0).due(2, x -> x.state(0));
    }

    // ---- promise 14

    private static final String CONFIRM_STATE =
        "Throws `IllegalStateException` if the call does not go on, or no booking is open in it";

    @Sentence("Lets the customer of a call confirm the booking.")
    static void promise14_theBookingIsFirm() {
        new Scene().wagons(2, 0, 0).asked(2, 1, 1, 0).due(0, x -> x.state(0)).due(0, x -> x.confirm(0))
            .due(2, x -> x.state(0)).due(2, x -> x.wagons(0)).due(0, x -> x.promised(0)).due(0, x -> x.callOf(1));
    }

    @Sentence("A booking that is confirmed is firm; the call can open another one then.")
    static void promise14_theCallCanOpenAnother() {
        new Scene().wagons(3, 0, 0).asked(1, 1, 1, 0).due(0, x -> x.confirm(0)).due(1, x -> x.ask(0, 3))
            .due(2, x -> x.bookings()).due(2, x -> x.state(0)).due(0, x -> x.state(1)).due(1, x -> x.wagons(0))
            .due(1, x -> x.confirm(0)).due(0, x -> x.ask(0, 3)).due(2, x -> x.promised(0)).due(2, x -> x.confirm(0));
    }

    @Sentence("A booking that is confirmed is firm; the call can open another one then.")
    static void promise14_aFirmOneStaysWhenTheCallEnds() {
        new Scene().wagons(2, 0, 0).asked(1, 1, 1, 0).due(0, x -> x.confirm(0)).due(0, x -> x.hangUp(0))
            .due(2, x -> x.state(0)).asked(1, 1, 1, 0).due(1, x -> x.confirm(1)).due(1, x -> x.cut(0, 1, 0))
            .due(2, x -> x.state(1)).due(0, x -> x.pass(100)).due(2, x -> x.state(0)).due(2, x -> x.state(1));
    }

    @Sentence(NUMBER)
    static void promise14_tellsTheBookingsNumber() {
        new Scene().wagons(2, 0, 0).wagons(1, 1, 0).due(0, x -> x.call(2, 2)).due(1, x -> x.call(0, 0))
            .due(2, x -> x.call(1, 1)).due(2, x -> x.ask(2, 0)).due(1, x -> x.ask(1, 0)).due(1, x -> x.confirm(1))
            .due(0, x -> x.ask(1, 0)).due(0, x -> x.confirm(2)).due(2, x -> x.confirm(1));
    }

    @Sentence(NO_CALL)
    static void promise14_refusesNumbersOfNoCall() {
        new Scene().wagons(2, 0, 0).outside(INDEX, 0, -1, (x, call) -> x.confirm(call)).asked(1, 0, 1, 0)
            .outside(INDEX, 0, 0, (x, call) -> x.confirm(call)).due(1, x -> x.hangUp(0)).asked(1, 0, 1, 0)
            .outside(INDEX, 0, 1, (x, call) -> x.confirm(call)).due(1, x -> x.confirm(1));
    }

    @Sentence(CONFIRM_STATE)
    static void promise14_refusesInACallThatDoesNotGoOn() {
        new Scene().wagons(2, 0, 0).asked(1, 0, 1, 0).due(1, x -> x.hangUp(0)).refused(STATE, x -> x.confirm(0))
            .asked(1, 0, 1, 0).refused(STATE, x -> x.confirm(0)).due(1, x -> x.cut(0, 1, 0))
            .refused(STATE, x -> x.confirm(1)).due(1, x -> x.state(1))
            .due(2, x -> x.call(1, 0)).due(1, x -> x.resume(2, 1)).refused(STATE, x -> x.confirm(1))
            .refused(STATE, x -> x.confirm(0)).due(1, x -> x.confirm(2));
    }

    @Sentence(CONFIRM_STATE)
    static void promise14_refusesWithoutAnOpenBooking() {
        new Scene().due(0, x -> x.call(1, 0)).refused(STATE, x -> x.confirm(0)).due(-1, x -> x.ask(0, 1))
            .refused(STATE, x -> x.confirm(0)).wagons(1, 0, 0).due(0, x -> x.ask(0, 1)).due(0, x -> x.confirm(0))
            .refused(STATE, x -> x.confirm(0)).due(1, x -> x.cancel(0, 0)).refused(STATE, x -> x.confirm(0));
    }

    @Sentence(CONFIRM_STATE)
    static void promise14_refusesWithABookingOpenInAnotherCall() {
        new Scene().wagons(1, 0, 0).due(1, x -> x.setLines(0, 2)).asked(1, 1, 1, 0).due(1, x -> x.call(4, 0))
            .refused(STATE, x -> x.confirm(1)).due(0, x -> x.confirm(0)).refused(STATE, x -> x.confirm(1));
    }

    @Sentence(FIRST_OF_SEVERAL)
    static void promise14_noCallComesFirst() {
        new Scene().wagons(1, 0, 0).due(0, x -> x.call(0, 0)).refused(INDEX, x -> x.confirm(1))
            .due(0, x -> x.hangUp(0)).refused(INDEX, x -> x.confirm(1)).refused(INDEX, x -> x.confirm(-1));
    }

    // ---- promise 15

    private static final String UP_AGAIN = "In another call to the same yard, in which no booking is open, the customer can"
        + " take a half booking up again: it is open, of the same grain.";
    private static final String RESUME_STATE = "Throws `IllegalStateException` if the call does not go on, a booking is open"
        + " in it, or that one is not half, or of another customer or yard";

    @Sentence("Lets the customer of a call take a half booking up again.")
    static void promise15_takesItUp() {
        halfOf(1).due(1, x -> x.call(1, 0)).due(1, x -> x.resume(1, 0)).due(0, x -> x.state(0))
            .due(0, x -> x.promised(2)).due(1, x -> x.bookings()).due(0, x -> x.confirm(1)).due(2, x -> x.state(0));
    }

    @Sentence(UP_AGAIN)
    static void promise15_isOpenOfTheSameGrain() {
        halfOf(1).due(1, x -> x.call(1, 0)).due(1, x -> x.resume(1, 0)).refused(STATE, x -> x.ask(1, 0))
            .due(1, x -> x.ask(1, 2)).due(2, x -> x.wagons(0)).due(1, x -> x.wagonOf(0, 1)).due(0, x -> x.confirm(1))
            .due(1, x -> x.shunt(0, 0, 1, 1)).due(2, x -> x.shunt(0, 0, 1, 1)).due(0, x -> x.depart(0, 1, 1))
            .due(2, x -> x.carried(1)).due(2, x -> x.carried(2));
    }

    @Sentence(UP_AGAIN)
    static void promise15_takesUpThatOneAlone() {
        new Scene().wagons(3, 0, 0).half(1, 0, 1, 0).half(1, 1, 1, 0).half(1, 2, 1, 0).due(3, x -> x.call(1, 0))
            .due(1, x -> x.resume(3, 2)).due(1, x -> x.state(0)).due(1, x -> x.state(1)).due(0, x -> x.state(2))
            .due(2, x -> x.confirm(3)).due(1, x -> x.resume(3, 1)).due(0, x -> x.state(1)).due(1, x -> x.state(0));
    }

    @Sentence(UP_AGAIN)
    static void promise15_isVoidWhenTheCustomerHangsUpThen() {
        halfOf(2).due(1, x -> x.call(1, 0)).due(2, x -> x.resume(1, 0)).due(2, x -> x.hangUp(1))
            .due(5, x -> x.state(0)).due(-1, x -> x.promised(1)).due(-1, x -> x.promised(2));
    }

    @Sentence(UP_AGAIN)
    static void promise15_isHalfAgainWhenTheCallIsCutOffThen() {
        halfOf(2).due(1, x -> x.call(1, 0)).due(2, x -> x.resume(1, 0)).due(1, x -> x.cut(0, 1, 0))
            .due(1, x -> x.state(0)).due(2, x -> x.call(1, 0)).due(2, x -> x.resume(2, 0)).due(0, x -> x.state(0));
    }

    @Sentence(UP_AGAIN)
    static void promise15_inACallOverAnotherWayToo() {
        halfOf(1).due(-1, x -> x.cut(0, 1, 0)).due(-1, x -> x.cut(0, 1, 1)).due(1, x -> x.call(1, 0))
            .due(2, x -> x.way(1)).due(1, x -> x.resume(1, 0));
    }

    @Sentence(UP_AGAIN)
    static void promise15_afterAnotherOneWasConfirmed() {
        halfOf(1).due(1, x -> x.call(1, 0)).due(1, x -> x.ask(1, 0)).refused(STATE, x -> x.resume(1, 0))
            .due(1, x -> x.confirm(1)).due(1, x -> x.resume(1, 0)).due(0, x -> x.confirm(1));
    }

    @Sentence("Returns how many wagons it has.")
    static void promise15_countsItsWagons() {
        for (int many = 1; many <= 3; many++) {
            int m = many;
            halfOf(m).due(1, x -> x.call(1, 0)).due(m, x -> x.resume(1, 0));
        }
        halfOf(1).due(1, x -> x.call(1, 0)).due(1, x -> x.resume(1, 0)).due(1, x -> x.ask(1, 2))
            .due(1, x -> x.cut(0, 1, 0)).due(2, x -> x.call(1, 0)).due(2, x -> x.resume(2, 0));
    }

    @Sentence(NO_CALL_OR_BOOKING)
    static void promise15_refusesNumbersOfNoCall() {
        halfOf(1).outside(INDEX, 0, 0, (x, call) -> x.resume(call, 0)).due(1, x -> x.call(1, 0))
            .outside(INDEX, 0, 1, (x, call) -> x.resume(call, 0)).due(1, x -> x.resume(1, 0));
    }

    @Sentence(NO_CALL_OR_BOOKING)
    static void promise15_refusesNumbersOfNoBooking() {
        new Scene().due(0, x -> x.call(1, 0)).outside(INDEX, 0, -1, (x, booking) -> x.resume(0, booking));
        halfOf(1).due(1, x -> x.call(1, 0)).outside(INDEX, 0, 0, (x, booking) -> x.resume(1, booking))
            .due(1, x -> x.resume(1, 0));
    }

    @Sentence(NO_CALL_OR_BOOKING)
    static void promise15_refusesNumbersOfNeither() {
        halfOf(1).refused(INDEX, x -> x.resume(1, 1)).refused(INDEX, x -> x.resume(-1, -1))
            .refused(INDEX, x -> x.resume(-1, 1)).refused(INDEX, x -> x.resume(1, -1));
    }

    @Sentence(RESUME_STATE)
    static void promise15_refusesInACallThatDoesNotGoOn() {
        halfOf(1).refused(STATE, x -> x.resume(0, 0)).due(1, x -> x.call(1, 0)).refused(STATE, x -> x.resume(0, 0))
            .due(0, x -> x.hangUp(1)).refused(STATE, x -> x.resume(1, 0)).due(2, x -> x.call(1, 0))
            .due(1, x -> x.resume(2, 0));
    }

    @Sentence(RESUME_STATE)
    static void promise15_refusesWithAnOpenBooking() {
        halfOf(1).due(1, x -> x.call(1, 0)).due(1, x -> x.ask(1, 2)).refused(STATE, x -> x.resume(1, 0))
            .due(1, x -> x.hangUp(1)).due(2, x -> x.call(1, 0)).due(1, x -> x.resume(2, 0))
            .refused(STATE, x -> x.resume(2, 0));
    }

    @Sentence(RESUME_STATE)
    static void promise15_refusesTheSecondOfTwoHalfOnesWhileTheFirstIsOpen() {
        halfOf(1).half(1, 0, 1, 0).due(2, x -> x.call(1, 0)).due(1, x -> x.resume(2, 1))
            .refused(STATE, x -> x.resume(2, 0)).due(1, x -> x.confirm(2)).due(1, x -> x.resume(2, 0));
    }

    @Sentence(RESUME_STATE)
    static void promise15_refusesAFirmOneAndAllBehind() {
        firmOf(3).due(1, x -> x.call(1, 0)).refused(STATE, x -> x.resume(1, 0))
            .due(0, x -> x.depart(0, 0, 1)).due(3, x -> x.state(0)).refused(STATE, x -> x.resume(1, 0))
            .due(3, x -> x.arrive(0, 0)).due(4, x -> x.state(0)).refused(STATE, x -> x.resume(1, 0));
    }

    @Sentence(RESUME_STATE)
    static void promise15_refusesAVoidOne() {
        firmOf(1).due(1, x -> x.call(1, 0)).due(1, x -> x.cancel(1, 0)).refused(STATE, x -> x.resume(1, 0))
            .due(2, x -> x.ask(1, 1)).due(1, x -> x.hangUp(1)).due(2, x -> x.call(1, 0))
            .refused(STATE, x -> x.resume(2, 1));
        halfOf(1).due(1, x -> x.call(1, 0)).due(0, x -> x.pass(9)).due(1, x -> x.pass(1)).due(5, x -> x.state(0))
            .refused(STATE, x -> x.resume(1, 0));
    }

    @Sentence(RESUME_STATE)
    static void promise15_takesItUpOneTickBeforeItLapses() {
        halfOf(1).due(1, x -> x.call(1, 0)).due(0, x -> x.pass(9)).due(1, x -> x.resume(1, 0)).due(0, x -> x.pass(100))
            .due(0, x -> x.state(0));
    }

    @Sentence(RESUME_STATE)
    static void promise15_refusesOneOfAnotherCustomer() {
        halfOf(1).due(1, x -> x.call(4, 0)).refused(STATE, x -> x.resume(1, 0)).due(0, x -> x.hangUp(1))
            .due(2, x -> x.call(0, 0)).refused(STATE, x -> x.resume(2, 0)).due(0, x -> x.hangUp(2))
            .due(3, x -> x.call(1, 0)).due(1, x -> x.resume(3, 0));
    }

    @Sentence(RESUME_STATE)
    static void promise15_refusesOneOfAnotherYard() {
        for (int yard = 0; yard < 3; yard++) {
            int y = yard;
            int next = (y + 1) % 3;
            new Scene().wagons(1, y, 0).half(1, 2, next, y).due(1, x -> x.call(next, next))
                .refused(STATE, x -> x.resume(1, 0)).due(0, x -> x.hangUp(1)).due(2, x -> x.call(next, (y + 2) % 3))
                .refused(STATE, x -> x.resume(2, 0)).due(0, x -> x.hangUp(2)).due(3, x -> x.call(next, y))
                .due(1, x -> x.resume(3, 0));
        }
    }

    @Sentence(RESUME_STATE)
    static void promise15_refusesForAllReasons() {
        firmOf(1).wagons(1, 2, 0).done(x -> x.call(5, 2)).due(3, x -> x.ask(1, 0)).refused(STATE, x -> x.resume(1, 0))
            .due(1, x -> x.hangUp(1)).refused(STATE, x -> x.resume(1, 0));
    }

    @Sentence(FIRST_OF_SEVERAL)
    static void promise15_noCallOrBookingComesFirst() {
        halfOf(1).refused(INDEX, x -> x.resume(0, 1)).refused(INDEX, x -> x.resume(0, -1)).due(1, x -> x.call(1, 0))
            .due(1, x -> x.ask(1, 0)).refused(INDEX, x -> x.resume(1, 2)).due(1, x -> x.confirm(1))
            .refused(INDEX, x -> x.resume(2, 1)).refused(INDEX, x -> x.resume(-1, 1));
    }

    // ---- promise 16

    private static final String CANCELS = "In a call the customer can cancel a firm booking of that yard: it is void.";
    private static final String CANCEL_STATE = "Throws `IllegalStateException` if the call does not go on, or the booking is"
        + " not firm, or of another customer or yard";

    @Sentence("Lets the customer of a call cancel a firm booking.")
    static void promise16_cancelsInALaterCall() {
        firmOf(2).due(1, x -> x.call(1, 0)).due(2, x -> x.cancel(1, 0)).due(5, x -> x.state(0)).due(1, x -> x.callOf(1));
    }

    @Sentence("Lets the customer of a call cancel a firm booking.")
    static void promise16_cancelsInTheSameCall() {
        new Scene().wagons(2, 0, 0).asked(1, 1, 1, 0).due(0, x -> x.confirm(0)).due(1, x -> x.cancel(0, 0))
            .due(5, x -> x.state(0));
    }

    @Sentence(CANCELS)
    static void promise16_itsWagonsArePromisedNoMore() {
        firmOf(2).due(1, x -> x.call(1, 0)).due(2, x -> x.cancel(1, 0)).due(-1, x -> x.promised(1))
            .due(-1, x -> x.promised(2)).due(-1, x -> x.carried(2)).due(2, x -> x.ask(1, 0)).due(1, x -> x.promised(2))
            .due(2, x -> x.wagonOf(0, 0)).due(1, x -> x.wagonOf(0, 1));
    }

    @Sentence(CANCELS)
    static void promise16_leavesTheOneThatIsOpen() {
        firmOf(1).due(1, x -> x.call(1, 0)).due(1, x -> x.ask(1, 0)).due(1, x -> x.cancel(1, 0)).due(0, x -> x.state(1))
            .due(1, x -> x.promised(1)).due(2, x -> x.ask(1, 0)).due(1, x -> x.confirm(1));
    }

    @Sentence("Returns how many wagons it had.")
    static void promise16_countsItsWagons() {
        for (int many = 1; many <= 3; many++) {
            int m = many;
            firmOf(m).due(1, x -> x.call(1, 0)).due(m, x -> x.cancel(1, 0)).due(m, x -> x.wagons(0));
        }
    }

    @Sentence(NO_CALL_OR_BOOKING)
    static void promise16_refusesNumbersOfNoCall() {
        firmOf(1).outside(INDEX, 0, 0, (x, call) -> x.cancel(call, 0)).due(1, x -> x.call(1, 0))
            .outside(INDEX, 0, 1, (x, call) -> x.cancel(call, 0)).due(1, x -> x.cancel(1, 0));
    }

    @Sentence(NO_CALL_OR_BOOKING)
    static void promise16_refusesNumbersOfNoBooking() {
        new Scene().due(0, x -> x.call(1, 0)).outside(INDEX, 0, -1, (x, booking) -> x.cancel(0, booking));
        firmOf(1).due(1, x -> x.call(1, 0)).outside(INDEX, 0, 0, (x, booking) -> x.cancel(1, booking))
            .due(1, x -> x.cancel(1, 0));
    }

    @Sentence(NO_CALL_OR_BOOKING)
    static void promise16_refusesNumbersOfNeither() {
        firmOf(1).refused(INDEX, x -> x.cancel(1, 1)).refused(INDEX, x -> x.cancel(-1, -1))
            .refused(INDEX, x -> x.cancel(-1, 1)).refused(INDEX, x -> x.cancel(1, -1));
    }

    @Sentence(CANCEL_STATE)
    static void promise16_refusesInACallThatDoesNotGoOn() {
        firmOf(1).refused(STATE, x -> x.cancel(0, 0)).due(1, x -> x.call(1, 0)).refused(STATE, x -> x.cancel(0, 0))
            .due(1, x -> x.cut(0, 1, 0)).refused(STATE, x -> x.cancel(1, 0)).due(2, x -> x.call(1, 0))
            .due(1, x -> x.cancel(2, 0));
    }

    @Sentence(CANCEL_STATE)
    static void promise16_refusesOneThatIsOpenOrHalf() {
        new Scene().wagons(1, 0, 0).asked(1, 1, 1, 0).refused(STATE, x -> x.cancel(0, 0)).due(0, x -> x.cut(0, 1, 0))
            .due(1, x -> x.call(1, 0)).refused(STATE, x -> x.cancel(1, 0)).due(1, x -> x.resume(1, 0))
            .refused(STATE, x -> x.cancel(1, 0)).due(0, x -> x.confirm(1)).due(1, x -> x.cancel(1, 0));
    }

    @Sentence(CANCEL_STATE)
    static void promise16_refusesOneThatIsUnderWayOrDone() {
        firmOf(3).due(1, x -> x.call(1, 0)).due(0, x -> x.depart(0, 0, 2)).refused(STATE, x -> x.cancel(1, 0))
            .due(3, x -> x.arrive(0, 0)).refused(STATE, x -> x.cancel(1, 0));
    }

    @Sentence(CANCEL_STATE)
    static void promise16_refusesOneThatIsVoid() {
        firmOf(1).due(1, x -> x.call(1, 0)).due(1, x -> x.cancel(1, 0)).refused(STATE, x -> x.cancel(1, 0))
            .due(2, x -> x.ask(1, 2)).refused(STATE, x -> x.cancel(1, 0)).due(1, x -> x.hangUp(1))
            .due(2, x -> x.call(1, 0)).refused(STATE, x -> x.cancel(2, 1));
    }

    @Sentence(CANCEL_STATE)
    static void promise16_refusesOneOfAnotherCustomer() {
        firmOf(1).due(1, x -> x.call(4, 0)).refused(STATE, x -> x.cancel(1, 0)).due(0, x -> x.hangUp(1))
            .due(2, x -> x.call(0, 0)).refused(STATE, x -> x.cancel(2, 0)).due(0, x -> x.hangUp(2))
            .due(3, x -> x.call(1, 0)).due(1, x -> x.cancel(3, 0));
    }

    @Sentence(CANCEL_STATE)
    static void promise16_refusesOneOfAnotherYard() {
        for (int yard = 0; yard < 3; yard++) {
            int y = yard;
            int next = (y + 1) % 3;
            new Scene().wagons(1, y, 0).firm(1, 2, next, y).due(1, x -> x.call(next, next))
                .refused(STATE, x -> x.cancel(1, 0)).due(0, x -> x.hangUp(1)).due(2, x -> x.call(next, (y + 2) % 3))
                .refused(STATE, x -> x.cancel(2, 0)).due(0, x -> x.hangUp(2)).due(3, x -> x.call(next, y))
                .due(1, x -> x.cancel(3, 0));
        }
    }

    @Sentence(CANCEL_STATE)
    static void promise16_refusesForAllReasons() {
        halfOf(1).due(1, x -> x.call(5, 2)).refused(STATE, x -> x.cancel(1, 0)).due(0, x -> x.hangUp(1))
            .refused(STATE, x -> x.cancel(1, 0));
    }

    @Sentence(FIRST_OF_SEVERAL)
    static void promise16_noCallOrBookingComesFirst() {
        halfOf(1).refused(INDEX, x -> x.cancel(0, 1)).refused(INDEX, x -> x.cancel(0, -1))
            .refused(INDEX, x -> x.cancel(1, 0)).refused(INDEX, x -> x.cancel(-1, 0));
    }

    // ---- promise 17

    private static final String ENDED = "Throws `IllegalStateException` if the call does not go on";

    @Sentence("Lets the customer of a call hang up.")
    static void promise17_theCallDoesNotGoOn() {
        new Scene().due(0, x -> x.call(1, 0)).due(1, x -> x.call(2, 2)).due(0, x -> x.hangUp(0))
            .due(-1, x -> x.callOf(1)).due(1, x -> x.callOf(2)).refused(STATE, x -> x.way(0)).due(0, x -> x.way(1));
    }

    @Sentence("When the customer hangs up, a booking that is open is void.")
    static void promise17_theOpenBookingIsVoid() {
        new Scene().wagons(4, 0, 0).firm(1, 1, 1, 0).half(1, 1, 1, 0).due(2, x -> x.call(1, 0)).due(1, x -> x.ask(2, 3))
            .due(1, x -> x.hangUp(2)).due(5, x -> x.state(2)).due(2, x -> x.state(0)).due(1, x -> x.state(1))
            .due(-1, x -> x.promised(1)).due(1, x -> x.promised(2)).due(0, x -> x.promised(3));
    }

    @Sentence("When the customer hangs up, a booking that is open is void.")
    static void promise17_leavesTheOpenBookingOfAnotherCall() {
        new Scene().wagons(2, 0, 0).due(1, x -> x.setLines(0, 2)).asked(1, 1, 1, 0).asked(1, 1, 4, 0)
            .due(1, x -> x.hangUp(0)).due(5, x -> x.state(0)).due(0, x -> x.state(1)).due(1, x -> x.promised(0))
            .due(1, x -> x.confirm(1));
    }

    @Sentence("Returns how many wagons are promised no more by that.")
    static void promise17_countsTheWagonsOfTheOpenBooking() {
        for (int many = 0; many <= 6; many++) {
            int m = many;
            new Scene().wagons(6, 0, 0).asked(m, 1, 1, 0).due(m, x -> x.hangUp(0)).due(-1, x -> x.promised(5));
        }
    }

    @Sentence("Returns how many wagons are promised no more by that.")
    static void promise17_countsNoWagonsOfFirmOrHalfBookings() {
        firmOf(1).asked(1, 0, 1, 0).due(1, x -> x.confirm(1)).due(0, x -> x.hangUp(1));
        halfOf(2).due(1, x -> x.call(1, 0)).due(0, x -> x.hangUp(1)).due(1, x -> x.state(0));
        firmOf(1).due(1, x -> x.call(1, 0)).due(1, x -> x.cancel(1, 0)).due(0, x -> x.hangUp(1));
    }

    @Sentence(NO_CALL)
    static void promise17_refusesNumbersOfNoCall() {
        new Scene().outside(INDEX, 0, -1, (x, call) -> x.hangUp(call)).due(0, x -> x.call(0, 0))
            .due(-1, x -> x.call(3, 0)).outside(INDEX, 0, 0, (x, call) -> x.hangUp(call)).due(1, x -> x.call(1, 1))
            .outside(INDEX, 0, 1, (x, call) -> x.hangUp(call)).due(0, x -> x.hangUp(0)).due(0, x -> x.hangUp(1));
    }

    @Sentence(ENDED)
    static void promise17_refusesInACallThatDoesNotGoOn() {
        new Scene().due(0, x -> x.call(1, 0)).due(0, x -> x.hangUp(0)).refused(STATE, x -> x.hangUp(0))
            .due(1, x -> x.call(1, 0)).refused(STATE, x -> x.hangUp(0)).due(1, x -> x.cut(0, 1, 0))
            .refused(STATE, x -> x.hangUp(1)).due(2, x -> x.call(4, 0)).refused(STATE, x -> x.hangUp(1))
            .due(2, x -> x.callOf(4));
    }

    @Sentence(FIRST_OF_SEVERAL)
    static void promise17_noCallComesFirst() {
        new Scene().due(0, x -> x.call(1, 0)).due(0, x -> x.hangUp(0)).refused(INDEX, x -> x.hangUp(1))
            .refused(INDEX, x -> x.hangUp(-1)).refused(STATE, x -> x.hangUp(0));
    }

    // ---- promise 18

    private static final String CALL_OF = "Returns the call of a customer that goes on, -1 if there is none.";

    @Sentence(CALL_OF)
    static void promise18_tellsEachCustomersCall() {
        Scene s = new Scene().due(1, x -> x.setLines(0, 2)).due(1, x -> x.setLines(1, 2)).due(1, x -> x.setLines(2, 2));
        for (int customer = 5; customer >= 0; customer--) {
            int c = customer;
            s.due(-1, x -> x.callOf(c)).due(5 - c, x -> x.call(c, c % 3)).due(5 - c, x -> x.callOf(c));
        }
        for (int customer = 0; customer < 6; customer++) {
            int c = customer;
            s.due(5 - c, x -> x.callOf(c)).done(x -> x.hangUp(5 - c)).due(-1, x -> x.callOf(c));
        }
    }

    @Sentence(CALL_OF)
    static void promise18_noneWhenItWasBusyOrCutOff() {
        new Scene().due(0, x -> x.call(0, 0)).due(-1, x -> x.call(3, 0)).due(-1, x -> x.callOf(3))
            .due(1, x -> x.call(3, 2)).due(1, x -> x.callOf(3)).due(1, x -> x.cut(2, 0, 0)).due(-1, x -> x.callOf(3))
            .due(0, x -> x.callOf(0)).due(2, x -> x.call(3, 2)).due(2, x -> x.callOf(3));
    }

    @Sentence("`customer`: 0 to 5")
    static void promise18_customer() {
        new Scene().due(0, x -> x.call(0, 0)).due(1, x -> x.call(5, 2)).due(0, x -> x.callOf(0)).due(1, x -> x.callOf(5))
            .outside(ARGUMENT, 0, 5, (x, customer) -> x.callOf(customer));
    }

    @Sentence("Throws `IllegalArgumentException` if customer is out of range")
    static void promise18_refusesAWrongCustomer() {
        new Scene().refused(ARGUMENT, x -> x.callOf(6)).refused(ARGUMENT, x -> x.callOf(-1)).due(-1, x -> x.callOf(5));
    }

    // ---- promise 19

    @Sentence("Returns how many trunks a call that goes on has.")
    static void promise19_countsNoneOneAndTwo() {
        new Scene().due(1, x -> x.setLines(1, 3)).due(-1, x -> x.cut(0, 1, 0)).due(0, x -> x.call(1, 1))
            .due(1, x -> x.call(0, 1)).due(2, x -> x.call(3, 1)).due(0, x -> x.way(0)).due(1, x -> x.way(1))
            .due(2, x -> x.way(2));
    }

    @Sentence("Returns how many trunks a call that goes on has.")
    static void promise19_staysWhenTheDirectTrunkIsMended() {
        new Scene().due(-1, x -> x.cut(0, 1, 0)).due(-1, x -> x.cut(0, 1, 1)).due(0, x -> x.call(0, 1)).mend(0, 1, 0)
            .due(2, x -> x.way(0)).due(-1, x -> x.trunk(0, 1, 0)).due(0, x -> x.trunk(0, 2, 0));
    }

    @Sentence(NO_CALL)
    static void promise19_refusesNumbersOfNoCall() {
        new Scene().outside(INDEX, 0, -1, (x, call) -> x.way(call)).due(0, x -> x.call(0, 0)).due(-1, x -> x.call(3, 0))
            .outside(INDEX, 0, 0, (x, call) -> x.way(call)).due(1, x -> x.call(1, 2))
            .outside(INDEX, 0, 1, (x, call) -> x.way(call)).due(1, x -> x.way(1));
    }

    @Sentence("Throws `IllegalStateException` if it does not go on")
    static void promise19_refusesACallThatDoesNotGoOn() {
        new Scene().due(0, x -> x.call(1, 0)).due(0, x -> x.hangUp(0)).refused(STATE, x -> x.way(0))
            .due(1, x -> x.call(1, 0)).refused(STATE, x -> x.way(0)).due(1, x -> x.way(1)).due(1, x -> x.cut(1, 0, 0))
            .refused(STATE, x -> x.way(1)).mend(0, 1, 0).refused(STATE, x -> x.way(1));
    }

    @Sentence(FIRST_OF_SEVERAL)
    static void promise19_noCallComesFirst() {
        new Scene().due(0, x -> x.call(1, 0)).due(0, x -> x.hangUp(0)).refused(INDEX, x -> x.way(1))
            .refused(INDEX, x -> x.way(-1)).refused(STATE, x -> x.way(0));
    }

    // ---- promise 20

    @Sentence("Returns how many calls were busy.")
    static void promise20_countsThoseWithoutALineAndThoseWithoutAWay() {
        new Scene().due(0, x -> x.busy()).due(1, x -> x.setLines(0, 0)).due(-1, x -> x.call(0, 0)).due(1, x -> x.busy())
            .due(-1, x -> x.cut(1, 2, 0)).due(-1, x -> x.cut(1, 2, 1)).due(-1, x -> x.cut(0, 1, 0))
            .due(-1, x -> x.cut(0, 1, 1)).due(-1, x -> x.call(1, 2)).due(2, x -> x.busy())
            .due(-1, x -> x.call(2, 1)).due(3, x -> x.busy()).due(-1, x -> x.call(1, 0)).due(4, x -> x.busy());
    }

    @Sentence("Returns how many calls were busy.")
    static void promise20_countsNoneThatBeganOrWasRefused() {
        new Scene().due(0, x -> x.call(0, 0)).due(0, x -> x.busy()).refused(STATE, x -> x.call(0, 0))
            .refused(ARGUMENT, x -> x.call(6, 0)).refused(ARGUMENT, x -> x.call(3, 3)).due(0, x -> x.busy())
            .due(-1, x -> x.call(3, 0)).due(1, x -> x.busy()).due(0, x -> x.hangUp(0)).due(1, x -> x.call(3, 0))
            .due(1, x -> x.busy());
    }

    @Sentence("Returns how many calls were busy.")
    static void promise20_isNotBounded() {
        Scene s = new Scene().due(1, x -> x.setLines(2, 0));
        for (int many = 1; many <= 100; many++) {
            s.due(-1, x -> x.call(2, 2));
        }
        s.due(100, x -> x.busy()).due(0, x -> x.call(2, 1));
    }
}
