/** Promises 21 to 25. */
final class TrunkTests {
    private TrunkTests() {
    }

    private interface OnTrunk {
        long on(TrunkYards x, int one, int other, int trunk);
    }

    private static void refusesWrongTrunks(Scene s, OnTrunk call) {
        for (int e = 0; e < 3; e++) {
            int same = e;
            s.refused(Scene.ARGUMENT, x -> call.on(x, same, same, 0));
        }
        s.refused(Scene.ARGUMENT, x -> call.on(x, -1, 0, 0)).refused(Scene.ARGUMENT, x -> call.on(x, 3, 0, 0));
        s.refused(Scene.ARGUMENT, x -> call.on(x, 0, -1, 0)).refused(Scene.ARGUMENT, x -> call.on(x, 0, 3, 0));
        s.refused(Scene.ARGUMENT, x -> call.on(x, 0, 1, -1)).refused(Scene.ARGUMENT, x -> call.on(x, 0, 1, 2));
        for (int far : Scene.FAR) {
            s.refused(Scene.ARGUMENT, x -> call.on(x, far, 0, 0)).refused(Scene.ARGUMENT, x -> call.on(x, 0, far, 0));
            s.refused(Scene.ARGUMENT, x -> call.on(x, 0, 1, far));
        }
    }

    static void promise21_cutsAFreeTrunk() {
        Scene s = new Scene()
            .due(-1, x -> x.cut(2, 1, 1)).due(-2, x -> x.trunk(1, 2, 1)).due(-1, x -> x.trunk(1, 2, 0))
            .due(-1, x -> x.trunk(0, 1, 1)).due(-1, x -> x.trunk(0, 2, 1))
            .refused(Scene.STATE, x -> x.cut(2, 1, 1)).refused(Scene.STATE, x -> x.cut(1, 2, 1));
        refusesWrongTrunks(s, (x, one, other, trunk) -> x.cut(one, other, trunk));
    }

    static void promise21_cutsACallOff() {
        new Scene()
            .due(0, x -> x.wagon(0, 0)).due(-1, x -> x.cut(0, 1, 0)).due(-1, x -> x.cut(0, 1, 1))
            .due(0, x -> x.call(1, 0)).due(0, x -> x.ask(0, 2))
            .due(0, x -> x.cut(0, 2, 0)).due(-2, x -> x.trunk(0, 2, 0)).due(-1, x -> x.trunk(1, 2, 0))
            .due(-1, x -> x.callOf(1)).due(1, x -> x.state(0)).due(0, x -> x.promised(0)).due(10, x -> x.lapses(0))
            .refused(Scene.STATE, x -> x.hangUp(0)).refused(Scene.STATE, x -> x.confirm(0))
            .due(1, x -> x.call(0, 0)).due(0, x -> x.busy());
    }

    static void promise21_leavesFirmBookingsAndOtherCalls() {
        new Scene()
            .due(0, x -> x.wagon(0, 0)).due(1, x -> x.setLines(0, 2))
            .due(0, x -> x.call(1, 0)).due(1, x -> x.call(4, 0)).due(0, x -> x.ask(0, 2)).due(0, x -> x.confirm(0))
            .due(0, x -> x.cut(1, 0, 0)).due(2, x -> x.state(0)).due(1, x -> x.callOf(4)).due(1, x -> x.trunk(0, 1, 1))
            .due(0, x -> x.pass(50)).due(2, x -> x.state(0));
    }

    static void promise22_mends() {
        Scene s = new Scene()
            .refused(Scene.STATE, Scene.mending(0, 1, 0))
            .due(-1, x -> x.cut(0, 1, 0)).refused(Scene.STATE, Scene.mending(0, 1, 1)).mend(1, 0, 0)
            .due(-1, x -> x.trunk(0, 1, 0)).refused(Scene.STATE, Scene.mending(0, 1, 0))
            .due(0, x -> x.call(0, 1)).due(0, x -> x.trunk(0, 1, 0)).refused(Scene.STATE, Scene.mending(0, 1, 0));
        refusesWrongTrunks(s, (x, one, other, trunk) -> {
            x.mend(one, other, trunk);
            return 0;
        });
    }

    static void promise23_tellsWhatATrunkHas() {
        Scene s = new Scene()
            .due(1, x -> x.setLines(2, 2))
            .due(0, x -> x.call(0, 2)).due(1, x -> x.call(3, 2))
            .due(0, x -> x.trunk(0, 2, 0)).due(1, x -> x.trunk(2, 0, 1)).due(-1, x -> x.trunk(0, 1, 0))
            .due(-1, x -> x.cut(1, 2, 0)).due(-2, x -> x.trunk(2, 1, 0)).due(-1, x -> x.trunk(2, 1, 1))
            .due(0, x -> x.hangUp(0)).due(-1, x -> x.trunk(0, 2, 0)).due(1, x -> x.trunk(0, 2, 1));
        refusesWrongTrunks(s, (x, one, other, trunk) -> x.trunk(one, other, trunk));
    }

    static void promise24_setsLines() {
        Scene s = new Scene()
            .due(1, x -> x.setLines(1, 3)).due(3, x -> x.setLines(1, 2)).due(1, x -> x.setLines(0, 1))
            .due(0, x -> x.call(1, 1)).due(1, x -> x.call(4, 1)).due(-1, x -> x.call(0, 1))
            .refused(Scene.STATE, x -> x.setLines(1, 1)).refused(Scene.STATE, x -> x.setLines(1, 0))
            .due(2, x -> x.setLines(1, 2)).due(2, x -> x.setLines(1, 3)).due(2, x -> x.call(0, 1))
            .refused(Scene.STATE, x -> x.setLines(1, 2))
            .due(0, x -> x.hangUp(0)).due(3, x -> x.setLines(1, 2))
            .due(2, x -> x.cut(0, 1, 0)).due(2, x -> x.setLines(1, 1))
            .due(0, x -> x.hangUp(1)).due(1, x -> x.setLines(1, 0)).due(-1, x -> x.call(1, 1))
            .refused(Scene.ARGUMENT, x -> x.setLines(-1, 1)).refused(Scene.ARGUMENT, x -> x.setLines(3, 1))
            .refused(Scene.ARGUMENT, x -> x.setLines(0, -1)).refused(Scene.ARGUMENT, x -> x.setLines(0, 4));
        for (int far : Scene.FAR) {
            s.refused(Scene.ARGUMENT, x -> x.setLines(far, 1)).refused(Scene.ARGUMENT, x -> x.setLines(0, far));
        }
    }

    static void promise25_lapsesHalfBookings() {
        new Scene()
            .due(1, x -> x.setLines(0, 2)).due(0, x -> x.wagon(0, 0)).due(1, x -> x.wagon(0, 0))
            .due(2, x -> x.wagon(0, 0))
            .due(0, x -> x.pass(7))
            .due(0, x -> x.call(1, 0)).due(1, x -> x.call(4, 0)).due(2, x -> x.ask(0, 0)).due(1, x -> x.ask(1, 1))
            .due(0, x -> x.cut(0, 1, 0)).due(1, x -> x.cut(0, 1, 1))
            .due(2, x -> x.call(3, 0)).due(0, x -> x.ask(2, 2))
            .due(0, x -> x.pass(9)).due(1, x -> x.state(0)).due(2, x -> x.pass(1))
            .due(5, x -> x.state(0)).due(5, x -> x.state(1)).due(0, x -> x.state(2))
            .due(-1, x -> x.promised(2)).due(-1, x -> x.promised(1)).due(2, x -> x.promised(0))
            .due(0, x -> x.pass(100));
    }

    static void promise25_countsFromTheLastTimeItBecameHalf() {
        new Scene()
            .due(0, x -> x.wagon(0, 0)).due(0, x -> x.call(1, 0)).due(0, x -> x.ask(0, 0)).due(0, x -> x.cut(0, 1, 0))
            .due(0, x -> x.pass(8)).due(1, x -> x.call(1, 0)).due(1, x -> x.resume(1, 0)).due(0, x -> x.pass(90))
            .due(0, x -> x.state(0)).due(1, x -> x.cut(0, 1, 1)).due(10, x -> x.lapses(0))
            .due(0, x -> x.pass(9)).due(1, x -> x.pass(100)).due(5, x -> x.state(0));
    }

    static void promise25_refuses() {
        Scene s = new Scene().refused(Scene.ARGUMENT, x -> x.pass(0)).refused(Scene.ARGUMENT, x -> x.pass(101));
        for (int far : Scene.FAR) {
            s.refused(Scene.ARGUMENT, x -> x.pass(far));
        }
        for (int i = 0; i < 99; i++) {
            s.due(0, x -> x.pass(100));
        }
        s.due(0, x -> x.pass(99)).refused(Scene.STATE, x -> x.pass(2)).refused(Scene.STATE, x -> x.pass(100));
        s.refused(Scene.ARGUMENT, x -> x.pass(101)).due(0, x -> x.pass(1)).refused(Scene.STATE, x -> x.pass(1));
    }
}
