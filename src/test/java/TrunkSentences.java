/** Promises 21 to 25, sentence by sentence. */
final class TrunkSentences extends Sentences {
    private TrunkSentences() {
    }

    private interface OnTrunk {
        long on(TrunkYards x, int one, int other, int trunk);
    }

    private static long mended(TrunkYards x, int one, int other, int trunk) {
        x.mend(one, other, trunk);
        return 0;
    }

    /** Each of the numbers wrong alone, all of them together, and both exchanges the same, alone and together. */
    private static Scene refusesWrongTrunks(Scene s, OnTrunk call) {
        for (int exchange = 0; exchange < 3; exchange++) {
            int same = exchange;
            s.refused(ARGUMENT, x -> call.on(x, same, same, 0)).refused(ARGUMENT, x -> call.on(x, same, same, 1));
        }
        return s.refused(ARGUMENT, x -> call.on(x, 3, 0, 0)).refused(ARGUMENT, x -> call.on(x, -1, 0, 0))
            .refused(ARGUMENT, x -> call.on(x, 0, 3, 0)).refused(ARGUMENT, x -> call.on(x, 0, -1, 0))
            .refused(ARGUMENT, x -> call.on(x, 0, 1, 2)).refused(ARGUMENT, x -> call.on(x, 0, 1, -1))
            .refused(ARGUMENT, x -> call.on(x, 1, 1, 2)).refused(ARGUMENT, x -> call.on(x, 3, 3, 0))
            .refused(ARGUMENT, x -> call.on(x, -1, 3, 0)).refused(ARGUMENT, x -> call.on(x, -1, -1, -1));
    }

    private static Scene withAllTrunksCut() {
        return new Scene().due(-1, x -> x.cut(0, 1, 0)).due(-1, x -> x.cut(0, 1, 1)).due(-1, x -> x.cut(0, 2, 0))
            .due(-1, x -> x.cut(0, 2, 1)).due(-1, x -> x.cut(1, 2, 0)).due(-1, x -> x.cut(1, 2, 1));
    }

    // ---- promise 21

    private static final String HALF_THEN = "When the call is cut off, it is half; it lapses, and is void, when 10 ticks have"
        + " gone by since it became half the last time.";

    @Sentence("Cuts a trunk.")
    static void promise21_cutsThatTrunkAlone() {
        for (int slot = 0; slot < 6; slot++) {
            int cutOne = slot / 2 == 2 ? 1 : 0;
            int cutOther = slot / 2 == 0 ? 1 : 2;
            int cutTrunk = slot % 2;
            Scene s = new Scene().due(-1, x -> x.cut(cutOne, cutOther, cutTrunk));
            for (int seen = 0; seen < 6; seen++) {
                int one = seen / 2 == 2 ? 1 : 0;
                int other = seen / 2 == 0 ? 1 : 2;
                int trunk = seen % 2;
                s.due(seen == slot ? -2 : -1, x -> x.trunk(one, other, trunk));
            }
        }
    }

    @Sentence("Cuts a trunk.")
    static void promise21_noCallGoesOverIt() {
        new Scene().due(-1, x -> x.cut(1, 2, 0)).due(0, x -> x.call(1, 2)).due(0, x -> x.trunk(1, 2, 1))
            .due(-2, x -> x.trunk(1, 2, 0)).due(0, x -> x.hangUp(0)).due(-2, x -> x.trunk(1, 2, 0));
    }

    @Sentence("Between two exchanges there are the trunks 0 and 1.")
    static void promise21_bothOrdersNameTheSameTrunks() {
        new Scene().due(-1, x -> x.cut(2, 0, 1)).due(-2, x -> x.trunk(0, 2, 1)).due(-1, x -> x.cut(0, 2, 0))
            .due(-2, x -> x.trunk(2, 0, 0)).refused(STATE, x -> x.cut(0, 2, 1)).refused(STATE, x -> x.cut(2, 0, 0));
    }

    @Sentence(ONE)
    static void promise21_one() {
        new Scene().due(-1, x -> x.cut(0, 1, 0)).due(-1, x -> x.cut(2, 1, 0)).due(-2, x -> x.trunk(0, 1, 0))
            .due(-2, x -> x.trunk(2, 1, 0)).outside(ARGUMENT, 0, 2, (x, one) -> x.cut(one, 1, 1));
    }

    @Sentence(OTHER)
    static void promise21_other() {
        new Scene().due(-1, x -> x.cut(1, 0, 0)).due(-1, x -> x.cut(1, 2, 0)).due(-2, x -> x.trunk(1, 0, 0))
            .due(-2, x -> x.trunk(1, 2, 0)).outside(ARGUMENT, 0, 2, (x, other) -> x.cut(1, other, 1))
            .refused(ARGUMENT, x -> x.cut(0, 0, 0)).refused(ARGUMENT, x -> x.cut(1, 1, 0))
            .refused(ARGUMENT, x -> x.cut(2, 2, 1));
    }

    @Sentence(TRUNK)
    static void promise21_trunk() {
        new Scene().due(-1, x -> x.cut(1, 0, 0)).due(-1, x -> x.cut(1, 0, 1)).due(-2, x -> x.trunk(0, 1, 0))
            .due(-2, x -> x.trunk(0, 1, 1)).outside(ARGUMENT, 0, 1, (x, trunk) -> x.cut(0, 2, trunk));
    }

    @Sentence("Returns the call that is cut off by that, -1 if none.")
    static void promise21_tellsTheCall() {
        new Scene().due(1, x -> x.setLines(1, 3)).due(0, x -> x.call(0, 0)).due(1, x -> x.call(2, 1))
            .due(2, x -> x.call(5, 1)).due(-1, x -> x.cut(0, 1, 0)).due(2, x -> x.cut(1, 2, 1))
            .due(1, x -> x.cut(1, 2, 0)).due(0, x -> x.callOf(0)).due(-1, x -> x.callOf(2)).due(-1, x -> x.callOf(5));
    }

    @Sentence("Returns the call that is cut off by that, -1 if none.")
    static void promise21_tellsTheCallNumberedZero() {
        new Scene().due(0, x -> x.call(2, 1)).due(0, x -> x.cut(2, 1, 0)).due(-1, x -> x.cut(2, 1, 1));
    }

    @Sentence("Returns the call that is cut off by that, -1 if none.")
    static void promise21_noneAfterTheCustomerHungUp() {
        new Scene().due(0, x -> x.call(2, 1)).due(0, x -> x.hangUp(0)).due(-1, x -> x.cut(2, 1, 0));
    }

    @Sentence(WRONG_TRUNK)
    static void promise21_refusesEachAloneAndTogether() {
        refusesWrongTrunks(new Scene().due(0, x -> x.call(0, 1)), (x, one, other, trunk) -> x.cut(one, other, trunk));
    }

    @Sentence("Throws `IllegalStateException` if it is cut")
    static void promise21_refusesWhatIsCut() {
        new Scene().due(-1, x -> x.cut(0, 1, 0)).refused(STATE, x -> x.cut(0, 1, 0)).refused(STATE, x -> x.cut(1, 0, 0))
            .due(-1, x -> x.cut(0, 1, 1)).refused(STATE, x -> x.cut(1, 0, 1)).due(0, x -> x.call(0, 2))
            .due(0, x -> x.cut(0, 2, 0)).refused(STATE, x -> x.cut(0, 2, 0)).mend(0, 2, 0).due(-1, x -> x.cut(2, 0, 0));
    }

    @Sentence(FIRST_OF_SEVERAL)
    static void promise21_aWrongTrunkComesFirst() {
        refusesWrongTrunks(withAllTrunksCut(), (x, one, other, trunk) -> x.cut(one, other, trunk));
    }

    @Sentence(HALF_THEN)
    static void promise21_theOpenBookingIsHalf() {
        new Scene().wagons(2, 0, 0).asked(2, 1, 1, 0).due(0, x -> x.cut(0, 1, 0)).due(1, x -> x.state(0))
            .due(10, x -> x.lapses(0)).due(2, x -> x.wagons(0)).due(0, x -> x.promised(0)).due(0, x -> x.promised(1));
    }

    @Sentence(HALF_THEN)
    static void promise21_theSecondTrunkOfAWayDoesItToo() {
        new Scene().wagons(1, 0, 0).due(-1, x -> x.cut(0, 1, 0)).due(-1, x -> x.cut(0, 1, 1)).asked(1, 1, 1, 0)
            .due(2, x -> x.way(0)).due(0, x -> x.cut(0, 2, 0)).due(1, x -> x.state(0)).due(10, x -> x.lapses(0));
    }

    @Sentence(HALF_THEN)
    static void promise21_leavesFirmBookingsAndThoseOfOtherCalls() {
        new Scene().wagons(3, 0, 0).due(1, x -> x.setLines(0, 2)).asked(1, 1, 1, 0).due(0, x -> x.confirm(0))
            .asked(1, 1, 4, 0).due(0, x -> x.ask(0, 3)).due(0, x -> x.cut(0, 1, 0))
            .due(2, x -> x.state(0)).due(0, x -> x.state(1)).due(1, x -> x.state(2)).due(1, x -> x.callOf(4));
    }

    // ---- promise 22

    private static final String MENDS = "Mends a trunk; it is free then.";

    @Sentence(MENDS)
    static void promise22_mendsThatTrunkAlone() {
        withAllTrunksCut().mend(0, 2, 1).due(-1, x -> x.trunk(0, 2, 1)).due(-2, x -> x.trunk(0, 2, 0))
            .due(-2, x -> x.trunk(0, 1, 0)).due(-2, x -> x.trunk(0, 1, 1)).due(-2, x -> x.trunk(1, 2, 0))
            .due(-2, x -> x.trunk(1, 2, 1)).due(0, x -> x.call(0, 2)).due(0, x -> x.trunk(0, 2, 1));
    }

    @Sentence(MENDS)
    static void promise22_theCallThatWasCutOffStaysSo() {
        new Scene().wagons(1, 0, 0).asked(1, 1, 1, 0).due(0, x -> x.cut(0, 1, 0)).mend(1, 0, 0)
            .due(-1, x -> x.trunk(0, 1, 0)).due(-1, x -> x.callOf(1)).refused(STATE, x -> x.way(0))
            .due(1, x -> x.state(0)).due(1, x -> x.call(1, 0)).due(1, x -> x.trunk(0, 1, 0));
    }

    @Sentence(ONE)
    static void promise22_one() {
        withAllTrunksCut().mend(0, 1, 0).mend(2, 1, 0).due(-1, x -> x.trunk(0, 1, 0)).due(-1, x -> x.trunk(2, 1, 0))
            .outside(ARGUMENT, 0, 2, (x, one) -> mended(x, one, 1, 1));
    }

    @Sentence(OTHER)
    static void promise22_other() {
        withAllTrunksCut().mend(1, 0, 0).mend(1, 2, 0).due(-1, x -> x.trunk(1, 0, 0)).due(-1, x -> x.trunk(1, 2, 0))
            .outside(ARGUMENT, 0, 2, (x, other) -> mended(x, 1, other, 1))
            .refused(ARGUMENT, x -> mended(x, 0, 0, 1)).refused(ARGUMENT, x -> mended(x, 1, 1, 1))
            .refused(ARGUMENT, x -> mended(x, 2, 2, 1));
    }

    @Sentence(TRUNK)
    static void promise22_trunk() {
        withAllTrunksCut().mend(1, 0, 0).mend(1, 0, 1).due(-1, x -> x.trunk(0, 1, 0)).due(-1, x -> x.trunk(0, 1, 1))
            .outside(ARGUMENT, 0, 1, (x, trunk) -> mended(x, 0, 2, trunk));
    }

    @Sentence(WRONG_TRUNK)
    static void promise22_refusesEachAloneAndTogether() {
        refusesWrongTrunks(withAllTrunksCut(), TrunkSentences::mended);
    }

    @Sentence("Throws `IllegalStateException` if it is not cut")
    static void promise22_refusesWhatIsNotCut() {
        new Scene().refused(STATE, x -> mended(x, 0, 1, 0)).due(0, x -> x.call(0, 1))
            .refused(STATE, x -> mended(x, 0, 1, 0)).due(-1, x -> x.cut(0, 1, 1)).mend(0, 1, 1)
            .refused(STATE, x -> mended(x, 0, 1, 1)).due(0, x -> x.cut(0, 1, 0)).mend(1, 0, 0)
            .refused(STATE, x -> mended(x, 1, 0, 0));
    }

    @Sentence(FIRST_OF_SEVERAL)
    static void promise22_aWrongTrunkComesFirst() {
        refusesWrongTrunks(new Scene(), TrunkSentences::mended);
    }

    // ---- promise 23

    private static final String HAS = "Returns what a trunk has: its call, -1 if it is free, -2 if it is cut.";

    @Sentence(HAS)
    static void promise23_tellsItsCall() {
        new Scene().due(1, x -> x.setLines(1, 2)).due(0, x -> x.call(2, 2)).due(1, x -> x.call(0, 1))
            .due(2, x -> x.call(3, 1)).due(1, x -> x.trunk(0, 1, 0)).due(2, x -> x.trunk(0, 1, 1))
            .due(1, x -> x.trunk(1, 0, 0)).due(2, x -> x.trunk(1, 0, 1));
    }

    @Sentence("A trunk is free, has a call, or is cut.")
    static void promise23_isFreeThenHasACallThenIsCutThenIsFree() {
        new Scene().due(-1, x -> x.trunk(1, 2, 0)).due(0, x -> x.call(2, 1)).due(0, x -> x.trunk(1, 2, 0))
            .due(0, x -> x.hangUp(0)).due(-1, x -> x.trunk(1, 2, 0)).due(1, x -> x.call(2, 1))
            .due(1, x -> x.trunk(1, 2, 0)).due(1, x -> x.cut(1, 2, 0)).due(-2, x -> x.trunk(1, 2, 0)).mend(1, 2, 0)
            .due(-1, x -> x.trunk(1, 2, 0));
    }

    @Sentence(ONE)
    static void promise23_one() {
        new Scene().due(0, x -> x.call(0, 1)).due(-1, x -> x.cut(1, 2, 0)).due(0, x -> x.trunk(0, 1, 0))
            .due(-2, x -> x.trunk(2, 1, 0)).outside(ARGUMENT, 0, 2, (x, one) -> x.trunk(one, 1, 0));
    }

    @Sentence(OTHER)
    static void promise23_other() {
        new Scene().due(0, x -> x.call(0, 1)).due(-1, x -> x.cut(1, 2, 0)).due(0, x -> x.trunk(1, 0, 0))
            .due(-2, x -> x.trunk(1, 2, 0)).outside(ARGUMENT, 0, 2, (x, other) -> x.trunk(1, other, 0))
            .refused(ARGUMENT, x -> x.trunk(0, 0, 0)).refused(ARGUMENT, x -> x.trunk(1, 1, 0))
            .refused(ARGUMENT, x -> x.trunk(2, 2, 1));
    }

    @Sentence(TRUNK)
    static void promise23_trunk() {
        new Scene().due(0, x -> x.call(0, 1)).due(-1, x -> x.cut(1, 0, 1)).due(0, x -> x.trunk(1, 0, 0))
            .due(-2, x -> x.trunk(1, 0, 1)).outside(ARGUMENT, 0, 1, (x, trunk) -> x.trunk(1, 0, trunk));
    }

    @Sentence(WRONG_TRUNK)
    static void promise23_refusesEachAloneAndTogether() {
        refusesWrongTrunks(new Scene(), (x, one, other, trunk) -> x.trunk(one, other, trunk));
    }

    // ---- promise 24

    private static final String MORE_CALLS = "Throws `IllegalStateException` if more calls to it go on";

    @Sentence("Sets the lines of a yard.")
    static void promise24_setsThoseOfThatYardAlone() {
        new Scene().due(1, x -> x.setLines(1, 3)).due(1, x -> x.setLines(0, 1)).due(1, x -> x.setLines(2, 0))
            .due(3, x -> x.setLines(1, 3)).due(0, x -> x.call(2, 1)).due(1, x -> x.call(1, 1)).due(2, x -> x.call(4, 1))
            .due(-1, x -> x.call(5, 1)).due(-1, x -> x.call(5, 2)).due(3, x -> x.call(0, 0)).due(-1, x -> x.call(3, 0));
    }

    @Sentence(YARD)
    static void promise24_yard() {
        new Scene().due(1, x -> x.setLines(0, 2)).due(1, x -> x.setLines(2, 3)).due(2, x -> x.setLines(0, 1))
            .due(3, x -> x.setLines(2, 1)).outside(ARGUMENT, 0, 2, (x, yard) -> x.setLines(yard, 2));
    }

    @Sentence("`lines`: 0 to 3")
    static void promise24_lines() {
        new Scene().due(1, x -> x.setLines(1, 0)).due(0, x -> x.setLines(1, 3)).due(3, x -> x.setLines(1, 0))
            .outside(ARGUMENT, 0, 3, (x, lines) -> x.setLines(1, lines));
    }

    @Sentence("Returns how many there were.")
    static void promise24_tellsThoseBefore() {
        new Scene().due(1, x -> x.setLines(2, 3)).due(3, x -> x.setLines(2, 2)).due(2, x -> x.setLines(2, 2))
            .due(2, x -> x.setLines(2, 0)).due(0, x -> x.setLines(2, 1)).due(1, x -> x.setLines(2, 1));
    }

    @Sentence("Throws `IllegalArgumentException` if yard or lines is out of range")
    static void promise24_refusesEachAloneAndBoth() {
        new Scene().refused(ARGUMENT, x -> x.setLines(3, 1)).refused(ARGUMENT, x -> x.setLines(-1, 1))
            .refused(ARGUMENT, x -> x.setLines(0, 4)).refused(ARGUMENT, x -> x.setLines(0, -1))
            .refused(ARGUMENT, x -> x.setLines(3, 4)).refused(ARGUMENT, x -> x.setLines(-1, -1))
            .due(1, x -> x.setLines(0, 1));
    }

    @Sentence(MORE_CALLS)
    static void promise24_refusesLessThanTheCallsThatGoOn() {
        new Scene().due(1, x -> x.setLines(0, 3)).due(0, x -> x.call(0, 0)).due(1, x -> x.call(1, 0))
            .due(2, x -> x.call(2, 0)).refused(STATE, x -> x.setLines(0, 2)).refused(STATE, x -> x.setLines(0, 1))
            .refused(STATE, x -> x.setLines(0, 0)).due(3, x -> x.setLines(0, 3)).due(0, x -> x.hangUp(0))
            .refused(STATE, x -> x.setLines(0, 1)).due(3, x -> x.setLines(0, 2)).due(1, x -> x.cut(0, 1, 0))
            .refused(STATE, x -> x.setLines(0, 0)).due(2, x -> x.setLines(0, 1)).due(0, x -> x.hangUp(2))
            .due(1, x -> x.setLines(0, 0));
    }

    @Sentence(MORE_CALLS)
    static void promise24_asManyLinesAsCallsAreEnough() {
        new Scene().due(0, x -> x.call(0, 0)).due(1, x -> x.setLines(0, 1)).refused(STATE, x -> x.setLines(0, 0))
            .due(1, x -> x.setLines(0, 2)).due(2, x -> x.setLines(0, 1)).due(-1, x -> x.call(3, 0));
    }

    @Sentence(MORE_CALLS)
    static void promise24_callsToOtherYardsDoNotCount() {
        new Scene().due(0, x -> x.call(0, 1)).due(1, x -> x.call(3, 2)).due(1, x -> x.setLines(0, 0))
            .due(-1, x -> x.call(1, 0)).due(0, x -> x.callOf(0)).due(0, x -> x.setLines(0, 1));
    }

    @Sentence(MORE_CALLS)
    static void promise24_busyAndEndedCallsDoNotCount() {
        new Scene().due(0, x -> x.call(0, 0)).due(-1, x -> x.call(3, 0)).due(-1, x -> x.call(1, 0))
            .due(1, x -> x.setLines(0, 1)).due(0, x -> x.hangUp(0)).due(1, x -> x.setLines(0, 0));
    }

    @Sentence(FIRST_OF_SEVERAL)
    static void promise24_wrongNumbersComeFirst() {
        new Scene().due(0, x -> x.call(0, 0)).refused(ARGUMENT, x -> x.setLines(0, -1))
            .refused(ARGUMENT, x -> x.setLines(0, Integer.MIN_VALUE)).refused(ARGUMENT, x -> x.setLines(3, 0))
            .refused(ARGUMENT, x -> x.setLines(-1, 0)).refused(STATE, x -> x.setLines(0, 0));
    }

    // ---- promise 25

    private static final String LAPSED = "Returns how many bookings lapse.";
    private static final String TOO_LATE = "Throws `IllegalStateException` if more than 10000 would have gone by";

    @Sentence("Lets ticks go by.")
    static void promise25_soManyGoBy() {
        new Scene().wagons(1, 0, 0).half(1, 1, 1, 0).due(0, x -> x.pass(3)).due(7, x -> x.lapses(0))
            .due(0, x -> x.pass(1)).due(6, x -> x.lapses(0)).due(0, x -> x.pass(5)).due(1, x -> x.lapses(0))
            .due(1, x -> x.pass(1)).due(5, x -> x.state(0)).due(0, x -> x.pass(1));
    }

    @Sentence("`ticks`: 1 to 100")
    static void promise25_ticks() {
        new Scene().wagons(1, 0, 0).half(1, 1, 1, 0).due(0, x -> x.pass(1)).due(9, x -> x.lapses(0))
            .outside(ARGUMENT, 1, 100, (x, ticks) -> x.pass(ticks)).due(9, x -> x.lapses(0)).due(1, x -> x.pass(100));
    }

    @Sentence(HALF_THEN)
    static void promise25_lapsesAtTheTenthTickNotAtTheNinth() {
        new Scene().wagons(1, 0, 0).half(1, 1, 1, 0).due(0, x -> x.pass(9)).due(1, x -> x.state(0))
            .due(0, x -> x.promised(0)).due(1, x -> x.pass(1)).due(5, x -> x.state(0)).due(-1, x -> x.promised(0));
        new Scene().wagons(1, 0, 0).half(1, 1, 1, 0).due(1, x -> x.pass(10)).due(5, x -> x.state(0));
        new Scene().wagons(1, 0, 0).half(1, 1, 1, 0).due(1, x -> x.pass(11)).due(5, x -> x.state(0));
    }

    @Sentence(HALF_THEN)
    static void promise25_countsFromTheLastTimeItBecameHalf() {
        new Scene().wagons(1, 0, 0).due(0, x -> x.pass(77)).half(1, 1, 1, 0).due(0, x -> x.pass(9))
            .due(1, x -> x.call(1, 0)).due(1, x -> x.resume(1, 0)).due(1, x -> x.cut(0, 1, 0))
            .due(10, x -> x.lapses(0)).due(0, x -> x.pass(9)).due(1, x -> x.state(0)).due(1, x -> x.pass(1))
            .due(5, x -> x.state(0));
    }

    @Sentence(HALF_THEN)
    static void promise25_doesNotLapseWhileItIsOpenOrFirm() {
        new Scene().wagons(1, 0, 0).half(1, 1, 1, 0).due(1, x -> x.call(1, 0)).due(1, x -> x.resume(1, 0))
            .due(0, x -> x.pass(10)).due(0, x -> x.state(0)).due(0, x -> x.confirm(1)).due(0, x -> x.pass(10))
            .due(2, x -> x.state(0)).due(0, x -> x.promised(0));
    }

    @Sentence(LAPSED)
    static void promise25_countsNoneOneAndSeveral() {
        new Scene().wagons(4, 0, 0).due(0, x -> x.pass(10)).half(1, 1, 1, 0).due(0, x -> x.pass(4)).half(1, 1, 4, 0)
            .half(1, 2, 2, 0).due(0, x -> x.pass(5)).due(1, x -> x.pass(1)).due(5, x -> x.state(0))
            .due(1, x -> x.state(1)).due(0, x -> x.pass(3)).due(2, x -> x.pass(1)).due(5, x -> x.state(1))
            .due(5, x -> x.state(2)).due(0, x -> x.pass(10));
        new Scene().wagons(3, 0, 0).half(1, 1, 1, 0).due(0, x -> x.pass(9)).half(1, 1, 4, 0).half(1, 2, 2, 0)
            .due(3, x -> x.pass(10));
    }

    @Sentence("Throws `IllegalArgumentException` if ticks is out of range")
    static void promise25_refusesWrongTicks() {
        new Scene().wagons(1, 0, 0).half(1, 1, 1, 0).refused(ARGUMENT, x -> x.pass(0)).refused(ARGUMENT, x -> x.pass(101))
            .refused(ARGUMENT, x -> x.pass(-1)).due(10, x -> x.lapses(0));
    }

    @Sentence(TOO_LATE)
    static void promise25_letsTenThousandGoBy() {
        new Scene().done(100, x -> x.pass(100)).refused(STATE, x -> x.pass(1)).refused(STATE, x -> x.pass(100));
    }

    @Sentence(TOO_LATE)
    static void promise25_refusesOneMoreThanTenThousand() {
        new Scene().done(99, x -> x.pass(100)).due(0, x -> x.pass(1)).refused(STATE, x -> x.pass(100))
            .due(0, x -> x.pass(99)).refused(STATE, x -> x.pass(1));
    }

    @Sentence(TOO_LATE)
    static void promise25_whatIsHalfAtTheEndStaysSo() {
        new Scene().wagons(1, 0, 0).done(99, x -> x.pass(100)).due(0, x -> x.pass(91)).half(1, 1, 1, 0)
            .refused(STATE, x -> x.pass(10)).due(0, x -> x.pass(9)).due(1, x -> x.lapses(0)).due(1, x -> x.state(0));
    }

    @Sentence(FIRST_OF_SEVERAL)
    static void promise25_wrongTicksComeFirst() {
        new Scene().done(100, x -> x.pass(100)).refused(ARGUMENT, x -> x.pass(101)).refused(ARGUMENT, x -> x.pass(0))
            .refused(ARGUMENT, x -> x.pass(Integer.MAX_VALUE)).refused(ARGUMENT, x -> x.pass(-100));
    }
}
