/** Promises 12 and 13, sentence by sentence. */
final class CallSentences extends Sentences {
    private CallSentences() {
    }

    // ---- promise 12

    private static final String NEEDS = "The call needs a line of the yard, and, if the exchanges of customer and yard are"
        + " unlike, a way: the lowest free trunk between both; if there is none, the lowest free trunk between that of"
        + " the customer and the third exchange, and the lowest free one between that and the yard's.";
    private static final String IS_BUSY = "Without a line, or without a way, it is busy, and there is no call.";
    private static final String GOES_ON =
        "A call goes on until the customer hangs up, or a trunk of its way is cut: then it is cut off.";
    private static final String FREE_THEN = "Its line and trunks are free then, but for one that is cut.";
    private static final String CALL_STATE =
        "Throws `IllegalStateException` if the customer has a call that goes on, or there were 60";

    @Sentence("The exchanges are 0 to 2; the exchange e serves the yard e, and the customers c, of 0 to 5, with c modulo 3"
        + " being e.")
    static void promise12_anExchangeServesItsYardAndCustomers() {
        for (int pair = 0; pair < 18; pair++) {
            int customer = pair / 3;
            int yard = pair % 3;
            int home = customer % 3;
            Scene s = new Scene().due(0, x -> x.call(customer, yard)).due(home == yard ? 0 : 1, x -> x.way(0));
            if (home != yard) {
                s.due(0, x -> x.trunk(home, yard, 0));
            }
        }
    }

    @Sentence("Lets a customer call a yard.")
    static void promise12_theCustomerHasACall() {
        new Scene().due(0, x -> x.call(4, 1)).due(0, x -> x.callOf(4)).due(-1, x -> x.callOf(1))
            .due(1, x -> x.call(1, 2)).due(0, x -> x.callOf(4)).due(1, x -> x.callOf(1));
    }

    @Sentence("A customer calls a yard.")
    static void promise12_theWagonsAskedForAreOfThatYard() {
        new Scene().wagons(1, 0, 0).wagons(1, 1, 0).wagons(1, 2, 0).done(x -> x.call(0, 2)).due(2, x -> x.ask(0, 0))
            .idle(-1, x -> x.ask(0, 0)).due(1, x -> x.call(3, 1)).due(1, x -> x.ask(1, 0));
    }

    @Sentence("`customer`: 0 to 5")
    static void promise12_customer() {
        new Scene().due(0, x -> x.call(0, 0)).due(1, x -> x.call(5, 1)).due(0, x -> x.callOf(0)).due(1, x -> x.callOf(5))
            .outside(ARGUMENT, 0, 5, (x, customer) -> x.call(customer, 2));
    }

    @Sentence(YARD)
    static void promise12_yard() {
        new Scene().due(0, x -> x.call(1, 0)).due(1, x -> x.call(2, 2)).due(0, x -> x.trunk(0, 1, 0))
            .outside(ARGUMENT, 0, 2, (x, yard) -> x.call(3, yard));
    }

    @Sentence("Returns the number of the call, -1 if it is busy.")
    static void promise12_tellsTheNumberOrBusy() {
        new Scene().due(0, x -> x.call(0, 0)).due(-1, x -> x.call(3, 0)).due(-1, x -> x.call(2, 0))
            .due(1, x -> x.call(3, 1)).due(-1, x -> x.call(1, 1)).due(2, x -> x.call(1, 2)).due(3, x -> x.busy());
    }

    @Sentence("Throws `IllegalArgumentException` if customer or yard is out of range")
    static void promise12_refusesEachAloneAndBoth() {
        new Scene().refused(ARGUMENT, x -> x.call(6, 0)).refused(ARGUMENT, x -> x.call(-1, 2))
            .refused(ARGUMENT, x -> x.call(0, 3)).refused(ARGUMENT, x -> x.call(5, -1))
            .refused(ARGUMENT, x -> x.call(6, 3)).refused(ARGUMENT, x -> x.call(-1, -1)).due(0, x -> x.busy());
    }

    @Sentence(CALL_STATE)
    static void promise12_refusesASecondCallOfACustomer() {
        new Scene().due(1, x -> x.setLines(0, 3)).due(0, x -> x.call(3, 0))
            .refused(STATE, x -> x.call(3, 0)).refused(STATE, x -> x.call(3, 1)).due(1, x -> x.call(0, 0))
            .due(0, x -> x.hangUp(0)).due(2, x -> x.call(3, 0)).due(-1, x -> x.cut(0, 1, 0))
            .due(0, x -> x.hangUp(2)).due(3, x -> x.call(3, 1)).refused(STATE, x -> x.call(3, 0))
            .due(3, x -> x.cut(0, 1, 1)).due(4, x -> x.call(3, 0));
    }

    @Sentence(CALL_STATE)
    static void promise12_refusesASecondCallAlsoWhereItWouldBeBusy() {
        new Scene().due(0, x -> x.call(3, 0)).due(1, x -> x.call(1, 1)).due(1, x -> x.setLines(2, 0))
            .refused(STATE, x -> x.call(3, 0)).refused(STATE, x -> x.call(3, 1)).refused(STATE, x -> x.call(3, 2))
            .due(0, x -> x.busy());
    }

    @Sentence(CALL_STATE)
    static void promise12_refusesAfterSixty() {
        sixtyCalls().due(0, x -> x.hangUp(59)).refused(STATE, x -> x.call(1, 1)).refused(STATE, x -> x.call(0, 2));
    }

    @Sentence(CALL_STATE)
    static void promise12_refusesAfterSixtyAlsoWhereItWouldBeBusy() {
        sixtyCalls().refused(STATE, x -> x.call(4, 1)).due(0, x -> x.busy());
    }

    @Sentence(CALL_STATE)
    static void promise12_refusesForBothReasons() {
        sixtyCalls().refused(STATE, x -> x.call(1, 1)).refused(STATE, x -> x.call(1, 0));
    }

    @Sentence("Calls are numbered from 0 as they begin, at most 60 ever.")
    static void promise12_aBusyOneIsNoneOfTheSixty() {
        Scene s = new Scene();
        for (int call = 0; call < 59; call++) {
            int c = call;
            s.due(c, x -> x.call(0, 0)).due(-1, x -> x.call(3, 0)).due(0, x -> x.hangUp(c));
        }
        s.due(59, x -> x.call(3, 0)).due(59, x -> x.callOf(3)).due(59, x -> x.busy()).due(0, x -> x.way(59));
    }

    private static Scene sixtyCalls() {
        Scene s = new Scene();
        for (int call = 0; call < 59; call++) {
            int c = call;
            s.due(c, x -> x.call(1, 1)).due(0, x -> x.hangUp(c));
        }
        return s.due(59, x -> x.call(1, 1));
    }

    @Sentence(FIRST_OF_SEVERAL)
    static void promise12_wrongNumbersComeFirst() {
        sixtyCalls().refused(ARGUMENT, x -> x.call(1, 3)).refused(ARGUMENT, x -> x.call(6, 1))
            .refused(ARGUMENT, x -> x.call(0, -1)).refused(ARGUMENT, x -> x.call(-1, 0));
        new Scene().due(0, x -> x.call(2, 2)).refused(ARGUMENT, x -> x.call(2, 3)).refused(ARGUMENT, x -> x.call(2, -1));
    }

    @Sentence("A yard has lines for as many calls at once as are set, 1 at first.")
    static void promise12_oneLineAtFirst() {
        for (int yard = 0; yard < 3; yard++) {
            int y = yard;
            new Scene().due(0, x -> x.call(y, y)).due(-1, x -> x.call(y + 3, y)).due(-1, x -> x.call((y + 1) % 3, y))
                .due(1, x -> x.call(y + 3, (y + 1) % 3));
        }
    }

    @Sentence("A yard has lines for as many calls at once as are set, 1 at first.")
    static void promise12_asManyCallsAsLines() {
        for (int lines = 0; lines <= 3; lines++) {
            int most = lines;
            Scene s = new Scene().due(1, x -> x.setLines(1, most));
            for (int customer = 0; customer < 4; customer++) {
                int c = customer;
                s.due(c < most ? c : -1, x -> x.call(c, 1));
            }
            s.due(4 - most, x -> x.busy());
        }
    }

    @Sentence(NEEDS)
    static void promise12_theOwnExchangeNeedsNoTrunk() {
        new Scene().due(-1, x -> x.cut(0, 1, 0)).due(-1, x -> x.cut(0, 1, 1)).due(-1, x -> x.cut(0, 2, 0))
            .due(-1, x -> x.cut(0, 2, 1)).due(-1, x -> x.cut(1, 2, 0)).due(-1, x -> x.cut(1, 2, 1))
            .due(0, x -> x.call(0, 0)).due(1, x -> x.call(4, 1)).due(2, x -> x.call(5, 2)).due(0, x -> x.way(2));
    }

    @Sentence(NEEDS)
    static void promise12_takesTheLowestFreeTrunkBetweenBoth() {
        new Scene().due(1, x -> x.setLines(2, 3)).due(0, x -> x.call(0, 2)).due(0, x -> x.trunk(0, 2, 0))
            .due(-1, x -> x.trunk(0, 2, 1)).due(1, x -> x.call(3, 2)).due(1, x -> x.trunk(0, 2, 1))
            .due(0, x -> x.hangUp(0)).due(2, x -> x.call(0, 2)).due(2, x -> x.trunk(0, 2, 0)).due(1, x -> x.way(2))
            .due(-1, x -> x.trunk(0, 1, 0)).due(-1, x -> x.trunk(1, 2, 0));
    }

    @Sentence(NEEDS)
    static void promise12_theSecondTrunkBetweenBothComesBeforeTheThirdExchange() {
        new Scene().due(-1, x -> x.cut(2, 1, 0)).due(0, x -> x.call(5, 1)).due(1, x -> x.way(0))
            .due(0, x -> x.trunk(1, 2, 1)).due(-1, x -> x.trunk(0, 2, 0)).due(-1, x -> x.trunk(0, 1, 0));
    }

    @Sentence(NEEDS)
    static void promise12_takesTheLowestFreeOnesOverTheThirdExchange() {
        new Scene().due(-1, x -> x.cut(0, 1, 0)).due(-1, x -> x.cut(0, 1, 1)).due(1, x -> x.setLines(1, 3))
            .due(0, x -> x.call(0, 1)).due(2, x -> x.way(0)).due(0, x -> x.trunk(0, 2, 0)).due(0, x -> x.trunk(2, 1, 0))
            .due(-1, x -> x.trunk(0, 2, 1)).due(-1, x -> x.trunk(2, 1, 1))
            .due(1, x -> x.call(3, 1)).due(2, x -> x.way(1)).due(1, x -> x.trunk(0, 2, 1)).due(1, x -> x.trunk(2, 1, 1))
            .due(0, x -> x.hangUp(0)).due(2, x -> x.call(0, 1)).due(2, x -> x.trunk(0, 2, 0))
            .due(2, x -> x.trunk(1, 2, 0));
    }

    @Sentence(NEEDS)
    static void promise12_bothTrunksBetweenMayAlsoHaveCalls() {
        new Scene().due(1, x -> x.setLines(0, 2)).due(0, x -> x.call(1, 0)).due(1, x -> x.call(4, 0))
            .due(2, x -> x.call(0, 1)).due(2, x -> x.way(2)).due(2, x -> x.trunk(0, 2, 0)).due(2, x -> x.trunk(1, 2, 0))
            .due(0, x -> x.trunk(0, 1, 0)).due(1, x -> x.trunk(0, 1, 1));
    }

    @Sentence(NEEDS)
    static void promise12_theTrunksOverTheThirdExchangeMayBeUnlike() {
        new Scene().due(-1, x -> x.cut(1, 2, 0)).due(-1, x -> x.cut(1, 2, 1)).due(-1, x -> x.cut(0, 1, 0))
            .due(0, x -> x.call(1, 2)).due(0, x -> x.trunk(1, 0, 1)).due(0, x -> x.trunk(0, 2, 0))
            .due(-1, x -> x.trunk(0, 2, 1)).due(2, x -> x.way(0));
    }

    @Sentence(IS_BUSY)
    static void promise12_isBusyWithoutALine() {
        new Scene().due(1, x -> x.setLines(0, 0)).due(-1, x -> x.call(0, 0)).due(-1, x -> x.call(1, 0))
            .due(2, x -> x.busy()).due(-1, x -> x.callOf(0)).due(-1, x -> x.callOf(1)).due(-1, x -> x.trunk(0, 1, 0))
            .refused(INDEX, x -> x.way(0));
    }

    @Sentence(IS_BUSY)
    static void promise12_isBusyWithoutTheFirstTrunkOfAWay() {
        new Scene().due(-1, x -> x.cut(0, 1, 0)).due(-1, x -> x.cut(0, 1, 1)).due(-1, x -> x.cut(0, 2, 0))
            .due(-1, x -> x.cut(0, 2, 1)).due(-1, x -> x.call(0, 1)).due(1, x -> x.busy())
            .due(-1, x -> x.trunk(1, 2, 0)).due(-1, x -> x.callOf(0)).refused(INDEX, x -> x.way(0))
            .due(0, x -> x.call(1, 1)).mend(0, 2, 1).due(-1, x -> x.call(0, 1)).due(0, x -> x.hangUp(0))
            .due(1, x -> x.call(0, 1)).due(1, x -> x.trunk(0, 2, 1)).due(1, x -> x.trunk(1, 2, 0));
    }

    @Sentence(IS_BUSY)
    static void promise12_isBusyWithoutTheSecondTrunkOfAWay() {
        new Scene().due(-1, x -> x.cut(0, 1, 0)).due(-1, x -> x.cut(0, 1, 1)).due(-1, x -> x.cut(1, 2, 0))
            .due(-1, x -> x.cut(1, 2, 1)).due(-1, x -> x.call(0, 1)).due(1, x -> x.busy())
            .due(-1, x -> x.trunk(0, 2, 0)).due(-1, x -> x.trunk(0, 2, 1)).due(-1, x -> x.callOf(0))
            .mend(1, 2, 0).due(0, x -> x.call(0, 1)).due(0, x -> x.trunk(0, 2, 0)).due(0, x -> x.trunk(1, 2, 0));
    }

    @Sentence(IS_BUSY)
    static void promise12_aBusyOneLeavesTheLine() {
        new Scene().due(-1, x -> x.cut(0, 1, 0)).due(-1, x -> x.cut(0, 1, 1)).due(-1, x -> x.cut(0, 2, 0))
            .due(-1, x -> x.cut(0, 2, 1)).due(-1, x -> x.call(0, 1)).due(0, x -> x.call(1, 1))
            .due(1, x -> x.call(0, 0)).due(1, x -> x.busy());
    }

    @Sentence(IS_BUSY)
    static void promise12_isBusyForBothReasonsOnce() {
        new Scene().due(-1, x -> x.cut(0, 1, 0)).due(-1, x -> x.cut(0, 1, 1)).due(-1, x -> x.cut(1, 2, 0))
            .due(-1, x -> x.cut(1, 2, 1)).due(1, x -> x.setLines(1, 0)).due(-1, x -> x.call(0, 1)).due(1, x -> x.busy());
    }

    @Sentence(GOES_ON)
    static void promise12_goesOnWhateverElseHappens() {
        new Scene().wagons(1, 0, 0).due(0, x -> x.call(1, 0)).due(0, x -> x.ask(0, 0)).due(0, x -> x.confirm(0))
            .due(0, x -> x.depart(0, 0, 1)).due(0, x -> x.pass(100)).due(-1, x -> x.cut(0, 1, 1))
            .due(-1, x -> x.cut(0, 2, 0)).due(1, x -> x.setLines(0, 3)).due(1, x -> x.call(0, 0))
            .due(0, x -> x.hangUp(1)).due(0, x -> x.callOf(1)).due(1, x -> x.way(0)).due(0, x -> x.hangUp(0))
            .due(-1, x -> x.callOf(1));
    }

    @Sentence(GOES_ON)
    static void promise12_aCallOfTheOwnExchangeIsNotCutOff() {
        new Scene().due(0, x -> x.call(2, 2)).due(-1, x -> x.cut(0, 1, 0)).due(-1, x -> x.cut(0, 1, 1))
            .due(-1, x -> x.cut(0, 2, 0)).due(-1, x -> x.cut(0, 2, 1)).due(-1, x -> x.cut(1, 2, 0))
            .due(-1, x -> x.cut(1, 2, 1)).due(0, x -> x.callOf(2)).due(0, x -> x.way(0));
    }

    @Sentence(GOES_ON)
    static void promise12_eachTrunkOfAWayCutsItOff() {
        for (int cut = 0; cut < 2; cut++) {
            int from = cut == 0 ? 0 : 1;
            new Scene().due(-1, x -> x.cut(0, 1, 0)).due(-1, x -> x.cut(0, 1, 1)).due(0, x -> x.call(0, 1))
                .due(-1, x -> x.cut(from, 2, 1)).due(0, x -> x.callOf(0))
                .due(0, x -> x.cut(from, 2, 0)).due(-1, x -> x.callOf(0)).refused(STATE, x -> x.way(0));
        }
    }

    @Sentence(FREE_THEN)
    static void promise12_theOtherTrunkOfAWayIsFreeWhenOneIsCut() {
        for (int cut = 0; cut < 2; cut++) {
            int from = cut == 0 ? 0 : 1;
            new Scene().due(-1, x -> x.cut(0, 1, 0)).due(-1, x -> x.cut(0, 1, 1)).due(0, x -> x.call(0, 1))
                .due(0, x -> x.cut(from, 2, 0)).due(-2, x -> x.trunk(from, 2, 0)).due(-1, x -> x.trunk(1 - from, 2, 0))
                .due(-1, x -> x.trunk(from, 2, 1)).due(1, x -> x.call(0, 1)).due(1, x -> x.trunk(1 - from, 2, 0))
                .due(1, x -> x.trunk(from, 2, 1));
        }
    }

    @Sentence(FREE_THEN)
    static void promise12_theLineIsFreeWhenItIsCutOff() {
        new Scene().due(0, x -> x.call(1, 0)).due(-1, x -> x.call(0, 0)).due(0, x -> x.cut(0, 1, 0))
            .due(1, x -> x.call(0, 0)).due(-1, x -> x.call(1, 0));
    }

    @Sentence(FREE_THEN)
    static void promise12_theLineAndTrunksAreFreeWhenTheCustomerHangsUp() {
        new Scene().due(-1, x -> x.cut(0, 1, 0)).due(-1, x -> x.cut(0, 1, 1)).due(0, x -> x.call(1, 0))
            .due(0, x -> x.hangUp(0)).due(-1, x -> x.trunk(1, 2, 0)).due(-1, x -> x.trunk(0, 2, 0))
            .due(-2, x -> x.trunk(0, 1, 0)).due(-2, x -> x.trunk(0, 1, 1)).due(1, x -> x.call(3, 0));
    }

    // ---- promise 13

    private static final String ONE_BY_ONE =
        "In a call the customer can ask for wagons of the yard, one by one, all for one grain until it is confirmed.";
    private static final String FOUND_SO = "A wagon that is asked for is the one that is found so: of all wagons on tracks"
        + " of the yard that are not promised, and fit the grain, the one with the fewest wagons between it and the open"
        + " end of its track, promised or not, of several that of the lowest track.";
    private static final String FIRST_ONE = "The first one opens a booking; bookings are numbered from 0 as they are opened,"
        + " at most 40 ever; each further one is added to it.";
    private static final String NONE_FOUND = "Returns the wagon, -1 if there is none, and then nothing happens.";
    private static final String ASK_STATE = "Throws `IllegalStateException` if the call does not go on, its booking is of"
        + " another grain, or none is open and there were 40";

    @Sentence("Lets the customer of a call ask for a wagon.")
    static void promise13_theWagonIsPromisedToTheCallsBooking() {
        new Scene().wagons(1, 0, 0).wagons(1, 1, 0).due(0, x -> x.call(0, 0)).due(1, x -> x.call(1, 1))
            .due(1, x -> x.ask(1, 3)).due(0, x -> x.ask(0, 2)).due(0, x -> x.promised(1)).due(1, x -> x.promised(0))
            .due(1, x -> x.confirm(0)).due(0, x -> x.confirm(1));
    }

    @Sentence(ONE_BY_ONE)
    static void promise13_addsUpOneByOne() {
        new Scene().wagons(3, 0, 1).due(0, x -> x.call(0, 0)).due(2, x -> x.ask(0, 1)).due(1, x -> x.wagons(0))
            .due(1, x -> x.ask(0, 1)).due(2, x -> x.wagons(0)).due(0, x -> x.ask(0, 1)).due(3, x -> x.wagons(0));
    }

    @Sentence(ONE_BY_ONE)
    static void promise13_allForOneGrainUntilItIsConfirmed() {
        new Scene().wagons(3, 0, 1).due(0, x -> x.call(0, 0)).due(2, x -> x.ask(0, 1))
            .refused(STATE, x -> x.ask(0, 0)).refused(STATE, x -> x.ask(0, 2)).refused(STATE, x -> x.ask(0, 3))
            .due(1, x -> x.ask(0, 1)).due(0, x -> x.confirm(0)).due(0, x -> x.ask(0, 3)).due(1, x -> x.promised(0));
    }

    @Sentence(FOUND_SO)
    static void promise13_theOneAtTheOpenEndOfTheLowestTrack() {
        new Scene().wagons(2, 1, 1).wagons(1, 1, 4).wagons(3, 1, 2).due(0, x -> x.call(1, 1))
            .due(1, x -> x.ask(0, 0)).due(5, x -> x.ask(0, 0)).due(2, x -> x.ask(0, 0))
            .due(0, x -> x.ask(0, 0)).due(4, x -> x.ask(0, 0)).due(3, x -> x.ask(0, 0)).due(-1, x -> x.ask(0, 0));
    }

    @Sentence(FOUND_SO)
    static void promise13_promisedOnesAreBetweenToo() {
        new Scene().wagons(3, 0, 0).firm(2, 1, 0, 0).wagons(3, 0, 4).firm(1, 1, 0, 0)
            .due(1, x -> x.wagons(1)).due(5, x -> x.wagonOf(1, 0)).due(2, x -> x.call(0, 0))
            .due(4, x -> x.ask(2, 0)).due(0, x -> x.ask(2, 0)).due(3, x -> x.ask(2, 0));
    }

    @Sentence(FOUND_SO)
    static void promise13_theOnesThatDoNotFitAreBetweenToo() {
        new Scene().wagons(1, 0, 0).carrier(2, 0, 0).wagons(1, 0, 0).carrier(2, 0, 3).wagons(1, 0, 4).wagons(1, 0, 4)
            .due(2, x -> x.call(0, 0)).due(2, x -> x.ask(2, 0)).due(5, x -> x.ask(2, 0)).due(4, x -> x.ask(2, 0))
            .due(0, x -> x.ask(2, 0)).due(-1, x -> x.ask(2, 0));
    }

    @Sentence(FOUND_SO)
    static void promise13_theLastOfAFullTrackIsFoundToo() {
        new Scene().wagons(6, 2, 4).due(0, x -> x.call(2, 2)).due(5, x -> x.ask(0, 0)).due(4, x -> x.ask(0, 0))
            .due(3, x -> x.ask(0, 0)).due(2, x -> x.ask(0, 0)).due(1, x -> x.ask(0, 0)).due(0, x -> x.ask(0, 0))
            .idle(-1, x -> x.ask(0, 0));
    }

    @Sentence(FOUND_SO)
    static void promise13_noneOfOtherYardsOrWithATrain() {
        new Scene().wagons(1, 0, 0).wagons(1, 2, 4).firm(1, 1, 2, 2).due(0, x -> x.depart(2, 4, 1))
            .due(1, x -> x.call(1, 1)).idle(-1, x -> x.ask(1, 1)).due(1, x -> x.arrive(0, 0))
            .due(1, x -> x.ask(1, 1));
    }

    @Sentence(FIRST_ONE)
    static void promise13_opensOneAndAddsToIt() {
        new Scene().wagons(3, 0, 1).wagons(1, 1, 0).due(0, x -> x.call(0, 0)).due(1, x -> x.call(1, 1))
            .due(2, x -> x.ask(0, 1)).due(1, x -> x.bookings()).due(0, x -> x.state(0))
            .due(3, x -> x.ask(1, 1)).due(2, x -> x.bookings()).due(1, x -> x.ask(0, 1)).due(0, x -> x.ask(0, 1))
            .due(2, x -> x.bookings()).due(3, x -> x.wagons(0)).due(1, x -> x.wagons(1))
            .due(2, x -> x.wagonOf(0, 0)).due(1, x -> x.wagonOf(0, 1)).due(0, x -> x.wagonOf(0, 2));
    }

    @Sentence(FIRST_ONE)
    static void promise13_numbersBookingsAlsoAfterVoidOnes() {
        new Scene().wagons(1, 0, 0).due(0, x -> x.call(0, 0)).due(0, x -> x.ask(0, 1)).due(1, x -> x.hangUp(0))
            .due(1, x -> x.call(0, 0)).due(0, x -> x.ask(1, 1)).due(1, x -> x.confirm(1)).due(1, x -> x.cancel(1, 1))
            .due(0, x -> x.ask(1, 1)).due(2, x -> x.confirm(1)).due(3, x -> x.bookings());
    }

    @Sentence("`grain`: 0 to 3")
    static void promise13_grain() {
        new Scene().wagons(2, 0, 0).firm(1, 0, 0, 0).firm(1, 3, 0, 0).due(1, x -> x.shunt(0, 0, 1, 1))
            .due(0, x -> x.depart(0, 0, 1)).due(1, x -> x.depart(0, 1, 1)).due(3, x -> x.carried(0))
            .due(0, x -> x.carried(1)).wagons(1, 0, 0).due(2, x -> x.call(0, 0))
            .outside(ARGUMENT, 0, 3, (x, grain) -> x.ask(2, grain)).due(2, x -> x.ask(2, 2))
            .outside(ARGUMENT, 0, 3, (x, grain) -> x.ask(2, grain));
    }

    @Sentence(NONE_FOUND)
    static void promise13_nothingHappensWithoutAnyWagon() {
        new Scene().due(0, x -> x.call(0, 0)).idle(-1, x -> x.ask(0, 0)).due(0, x -> x.bookings())
            .refused(STATE, x -> x.confirm(0)).wagons(1, 0, 0).due(0, x -> x.ask(0, 3));
    }

    @Sentence(NONE_FOUND)
    static void promise13_nothingHappensWhenAllArePromised() {
        new Scene().wagons(2, 0, 0).firm(1, 1, 0, 0).due(1, x -> x.call(3, 0)).due(0, x -> x.ask(1, 1))
            .idle(-1, x -> x.ask(1, 1)).due(1, x -> x.wagons(1)).due(2, x -> x.bookings()).due(1, x -> x.confirm(1))
            .idle(-1, x -> x.ask(1, 2)).due(2, x -> x.bookings());
    }

    @Sentence(NONE_FOUND)
    static void promise13_nothingHappensWhenNoneFits() {
        new Scene().carrier(1, 0, 0).due(1, x -> x.call(0, 0)).idle(-1, x -> x.ask(1, 0)).idle(-1, x -> x.ask(1, 2))
            .due(1, x -> x.bookings()).due(0, x -> x.ask(1, 1)).due(2, x -> x.bookings());
    }

    @Sentence(NO_CALL)
    static void promise13_refusesNumbersOfNoCall() {
        new Scene().wagons(3, 0, 0).outside(INDEX, 0, -1, (x, call) -> x.ask(call, 0))
            .due(0, x -> x.call(0, 0)).outside(INDEX, 0, 0, (x, call) -> x.ask(call, 0))
            .due(-1, x -> x.call(3, 0)).outside(INDEX, 0, 0, (x, call) -> x.ask(call, 0))
            .due(1, x -> x.call(1, 1)).outside(INDEX, 0, 1, (x, call) -> x.ask(call, 0))
            .due(2, x -> x.ask(0, 0));
    }

    @Sentence("Throws `IllegalArgumentException` if grain is out of range")
    static void promise13_refusesAWrongGrain() {
        new Scene().wagons(3, 0, 0).due(0, x -> x.call(0, 0)).refused(ARGUMENT, x -> x.ask(0, 4))
            .refused(ARGUMENT, x -> x.ask(0, -1)).due(2, x -> x.ask(0, 3)).refused(ARGUMENT, x -> x.ask(0, 4));
    }

    @Sentence(ASK_STATE)
    static void promise13_refusesInACallThatDoesNotGoOn() {
        new Scene().wagons(3, 0, 0).due(0, x -> x.call(1, 0)).due(0, x -> x.hangUp(0)).refused(STATE, x -> x.ask(0, 0))
            .due(1, x -> x.call(1, 0)).refused(STATE, x -> x.ask(0, 0)).due(2, x -> x.ask(1, 0))
            .refused(STATE, x -> x.ask(0, 0)).due(1, x -> x.cut(0, 1, 0)).refused(STATE, x -> x.ask(1, 0));
    }

    @Sentence(ASK_STATE)
    static void promise13_refusesAnotherGrainAlsoWithoutAWagonForIt() {
        new Scene().wagons(1, 0, 0).due(0, x -> x.call(1, 0)).due(0, x -> x.ask(0, 2)).refused(STATE, x -> x.ask(0, 1))
            .idle(-1, x -> x.ask(0, 2)).refused(STATE, x -> x.ask(0, 3));
    }

    @Sentence(ASK_STATE)
    static void promise13_refusesAnotherGrainInABookingTakenUpAgain() {
        new Scene().wagons(3, 0, 0).half(1, 2, 1, 0).due(1, x -> x.call(1, 0)).due(1, x -> x.resume(1, 0))
            .refused(STATE, x -> x.ask(1, 1)).refused(STATE, x -> x.ask(1, 0)).due(1, x -> x.ask(1, 2));
    }

    private static Scene fortyBookings() {
        Scene s = new Scene().wagons(3, 0, 0).due(0, x -> x.call(0, 0));
        for (int booking = 0; booking < 39; booking++) {
            int b = booking;
            s.due(2, x -> x.ask(0, 0)).due(b, x -> x.confirm(0)).due(1, x -> x.cancel(0, b));
        }
        return s.due(2, x -> x.ask(0, 0)).due(40, x -> x.bookings());
    }

    @Sentence(ASK_STATE)
    static void promise13_refusesToOpenAfterForty() {
        fortyBookings().due(39, x -> x.confirm(0)).refused(STATE, x -> x.ask(0, 0)).refused(STATE, x -> x.ask(0, 1))
            .due(1, x -> x.call(1, 1)).refused(STATE, x -> x.ask(1, 0));
    }

    @Sentence(ASK_STATE)
    static void promise13_addsToTheFortieth() {
        fortyBookings().due(1, x -> x.ask(0, 0)).due(0, x -> x.ask(0, 0)).idle(-1, x -> x.ask(0, 0))
            .due(3, x -> x.wagons(39)).due(40, x -> x.bookings()).refused(STATE, x -> x.ask(0, 1));
    }

    @Sentence(ASK_STATE)
    static void promise13_refusesForSeveralReasons() {
        fortyBookings().due(1, x -> x.hangUp(0)).refused(STATE, x -> x.ask(0, 0)).refused(STATE, x -> x.ask(0, 3));
    }

    @Sentence(FIRST_OF_SEVERAL)
    static void promise13_noCallThenAWrongGrainThenTheState() {
        fortyBookings().refused(INDEX, x -> x.ask(1, 4)).refused(INDEX, x -> x.ask(-1, -1)).refused(INDEX, x -> x.ask(1, 0))
            .refused(ARGUMENT, x -> x.ask(0, 4)).due(39, x -> x.confirm(0)).refused(ARGUMENT, x -> x.ask(0, 4))
            .due(0, x -> x.hangUp(0)).refused(ARGUMENT, x -> x.ask(0, -1)).refused(INDEX, x -> x.ask(1, -1));
    }
}
