/** Promises 19 to 23, with the terms of winter and spring. */
final class DaysAndBillsTest {
    private static final int NONE = MarinaBerths.NONE;
    private static final int MOST = 2147483647;

    public static void main(String[] args) {
        pass();
        passTooExpensive();
        passManyYears();
        feesRoundDown();
        winterTakesTheBestWay();
        winterLetsMostBoatsStay();
        springBringsHome();
        winterInTheLowestBerth();
        springWhenTheHomeFitsNoMore();
        springAndTheWaitingList();
        seasonsBeginOnlyOnTheirDays();
        pay();
        charge();
        owedAndPaid();
        Checks.finish("DaysAndBillsTest");
    }

    private static void pass() {
        MarinaBerths x = new MarinaBerths();
        x.addBoat(100, 100, 0);
        x.await(0);
        Checks.undoable("pass(1)", x, 0, () -> x.pass(1));
        Checks.undoable("pass(268)", x, 0, () -> x.pass(268));
        Checks.undoable("pass(1) into winter", x, 1, () -> x.pass(1));
        Checks.due("it is winter", x.info(5), 1);
        Checks.due("d", x.info(4), 270);
        Checks.due("points", x.boat(0, 5), 270);
        Checks.undoable("pass(180) into spring", x, 1, () -> x.pass(180));
        Checks.due("it is not winter", x.info(5), 0);
        Checks.undoable("pass(400) over both", x, 2, () -> x.pass(400));
        Checks.refused("pass(0)", x, Checks.ARGUMENT, () -> x.pass(0));
        Checks.refused("pass(401)", x, Checks.ARGUMENT, () -> x.pass(401));
        Checks.refused("pass(-5)", x, Checks.ARGUMENT, () -> x.pass(-5));
    }

    private static void passTooExpensive() {
        MarinaBerths x = new MarinaBerths();
        x.addBerth(900, 400, false, 10);
        x.addBerth(900, 400, false, 0);
        x.addBoat(400, 100, 0);
        x.addBoat(400, 100, 0);
        x.addBoat(400, 100, 0);
        x.place(1, 0);
        x.place(0, 1);
        x.await(2);
        x.charge(1, MOST - 800);
        Checks.refused("pass(3), the third day being too much", x, Checks.STATE, () -> x.pass(3));
        Checks.undoable("pass(2) up to the very limit", x, 0, () -> x.pass(2));
        Checks.due("what it owes", x.boat(1, 7), MOST);
        Checks.refused("pass(1)", x, Checks.STATE, () -> x.pass(1));
        Checks.refused("out of range comes first", x, Checks.ARGUMENT, () -> x.pass(401));
        x.setRate(0, 0);
        x.pass(1);
        Checks.due("nothing more at the rate 0", x.boat(1, 7), MOST);
        x.setRate(0, 9999999);
        x.pay(1, MOST);
        x.pass(5);
        Checks.due("the greatest fee", x.boat(1, 7), 5 * 399999960);
        Checks.refused("one day more", x, Checks.STATE, () -> x.pass(1));
    }

    private static void passManyYears() {
        MarinaBerths x = new MarinaBerths();
        int begun = 0;
        for (int k = 0; k < 500; k++) {
            begun += x.pass(400);
        }
        // 200000 days are 555 years and 200 days: 555 winters and, that of day 90 coming too early, 555 springs.
        Checks.due("d", x.info(4), 200000);
        Checks.due("winters and springs", begun, 1110);
    }

    private static void feesRoundDown() {
        MarinaBerths x = new MarinaBerths();
        x.addBerth(300, 100, true, 3);
        x.addBerth(300, 100, true, 0);
        x.addBoat(33, 100, 0);
        x.addBoat(39, 100, 0);
        x.addBoat(31, 100, 0);
        x.place(0, 0);
        x.place(1, 1);
        x.await(2);
        x.pass(1);
        Checks.due("33 * 3 / 10", x.boat(0, 7), 9);
        x.pass(1);
        Checks.due("rounded down each day", x.boat(0, 7), 18);
        x.set(1, 7);
        x.set(2, 3);
        x.pass(1);
        Checks.due("the day before winter is still paid in the berth", x.boat(0, 7), 27);
        Checks.due("they are ashore", x.info(10), 2);
        x.pass(2);
        Checks.due("ashore 33 * 7 / 10", x.boat(0, 7), 27 + 2 * 23);
        Checks.due("ashore 39 * 7 / 10", x.boat(1, 7), 2 * 27);
        Checks.due("waiting costs nothing", x.boat(2, 7), 0);
    }

    private static void winterTakesTheBestWay() {
        MarinaBerths x = new MarinaBerths();
        x.addBerth(300, 200, true, 0);
        x.addBerth(300, 200, true, 0);
        x.addBerth(300, 100, false, 0);
        x.addBerth(300, 150, false, 0);
        x.addBerth(300, 200, false, 0);
        x.addBoat(200, 100, 0);
        x.addBoat(90, 100, 0);
        x.addBoat(60, 100, 0);
        x.place(2, 0);
        x.place(1, 1);
        x.set(2, 1);
        x.pass(1);
        Checks.due("the lowest boat has the lowest berth", x.boat(1, 4), 2);
        Checks.due("the next one the next", x.boat(2, 4), 3);
        Checks.due("their homes", x.boat(1, 6) * 10 + x.boat(2, 6), 10);
        Checks.due("a boat that was away stays away", x.boat(0, 3), 0);
    }

    private static void winterLetsMostBoatsStay() {
        MarinaBerths x = new MarinaBerths();
        for (int k = 0; k < 4; k++) {
            x.addBerth(300, 200, true, 0);
        }
        x.addBerth(300, 100, false, 0);
        x.addBerth(300, 150, false, 0);
        x.addBerth(300, 150, false, 0);
        int[] lengths = {90, 140, 100, 150, 140};
        for (int length : lengths) {
            x.addBoat(length, 100, 0);
        }
        x.place(0, 2);
        x.place(1, 1);
        x.place(2, 0);
        x.place(3, 3);
        x.place(4, 6);
        x.set(2, 1);
        x.pass(1);
        // Berths 4 and 5 are free: boat 0 may have 4, then boat 1 must have 5, and no boat more is possible.
        dueBerths(x, 4, 5, NONE, NONE, 6);
        Checks.due("the others are ashore", x.info(10), 2);
        x.undo();
        x.undo();
        x.leave(0);
        x.set(2, 1);
        x.pass(1);
        // Now boat 1 must not keep boat 2 from its only berth.
        dueBerths(x, NONE, 5, 4, NONE, 6);
    }

    private static void winterInTheLowestBerth() {
        MarinaBerths x = new MarinaBerths();
        for (int k = 0; k < 16; k++) {
            x.addBerth(300, 100, k > 0 && k < 15, 0);
        }
        for (int k = 0; k < 20; k++) {
            x.addBoat(100, 100, 0);
        }
        x.place(17, 3);
        x.place(18, 2);
        x.place(19, 1);
        x.set(2, 1);
        x.pass(1);
        Checks.due("boat(17, 4)", x.boat(17, 4), 0);
        Checks.due("boat(18, 4)", x.boat(18, 4), 15);
        Checks.due("boat(19, 4)", x.boat(19, 4), NONE);
        x.undo();
        x.undo();
        Checks.setTable(x, "-171");
        x.set(2, 1);
        x.pass(1);
        Checks.due("when no boat fits any berth", x.info(10), 3);
    }

    private static void springBringsHome() {
        MarinaBerths x = new MarinaBerths();
        x.addBerth(300, 100, true, 0);
        x.addBerth(300, 100, true, 0);
        x.addBerth(300, 100, true, 0);
        x.addBerth(300, 100, false, 0);
        for (int k = 0; k < 4; k++) {
            x.addBoat(100, 100, 0);
        }
        x.place(0, 2);
        x.place(1, 1);
        x.place(2, 0);
        x.set(2, 5);
        x.set(3, 7);
        x.pass(5);
        dueBerths(x, 3, NONE, NONE, NONE);
        Checks.due("all exposed boats have a home", x.boat(0, 6) * 100 + x.boat(1, 6) * 10 + x.boat(2, 6), 210);
        x.pass(2);
        dueBerths(x, 2, 1, 0, NONE);
        Checks.due("nobody has a home any more", x.boat(0, 6) + x.boat(1, 6) + x.boat(2, 6), -3);
    }

    private static void springWhenTheHomeFitsNoMore() {
        MarinaBerths x = new MarinaBerths();
        x.addBerth(200, 100, true, 0);
        x.addBerth(200, 100, true, 0);
        x.addBerth(300, 100, true, 0);
        x.addBerth(300, 100, false, 0);
        for (int k = 0; k < 5; k++) {
            x.addBoat(100, 150, k == 4 ? 2 : 0);
        }
        x.place(0, 0);
        x.place(2, 1);
        x.place(1, 2);
        x.set(2, 5);
        x.set(3, 7);
        x.pass(5);
        dueBerths(x, 3, NONE, NONE, NONE, NONE);
        x.set(0, 60);
        x.pass(1);
        x.await(3);
        x.pass(1);
        // Boat 0 stays where it is, boat 1 comes home, boat 2 begins to wait; boat 3 waits for a day already.
        dueBerths(x, 3, 2, NONE, NONE, NONE);
        Checks.due("it waits", x.boat(2, 3), 2);
        Checks.due("for 0 days", x.boat(2, 5), 0);
        Checks.due("behind the one that waits for a day", x.waiting(1), 2);
        Checks.due("no homes any more", x.boat(0, 6) + x.boat(1, 6) + x.boat(2, 6), -3);
        x.set(2, 9);
        x.set(3, 10);
        x.set(0, 30);
        x.pass(3);
        dueBerths(x, 3, 2, NONE, NONE, NONE);
    }

    private static void springAndTheWaitingList() {
        MarinaBerths x = new MarinaBerths();
        x.addBerth(200, 100, true, 0);
        x.addBerth(200, 100, true, 0);
        x.addBoat(100, 100, 1);
        x.addBoat(100, 100, 1);
        x.addBoat(100, 100, 0);
        x.addBoat(100, 100, 1);
        x.place(1, 0);
        x.place(0, 1);
        x.set(2, 1);
        x.set(3, 2);
        x.pass(1);
        x.set(0, 100);
        x.addBerth(190, 100, true, 0);
        Checks.setTable(x, "-1");
        x.await(2);
        x.pass(1);
        x.await(3);
        // All four have one point: boat 2 began first, then by spring the boats 0 and 1, then boat 3.
        int[] list = {2, 0, 1, 3};
        for (int k = 0; k < list.length; k++) {
            Checks.due("waiting(" + k + ")", x.waiting(k), list[k]);
            Checks.due("its points", x.boat(list[k], 5), 1);
        }
    }

    private static void seasonsBeginOnlyOnTheirDays() {
        MarinaBerths x = new MarinaBerths();
        Checks.due("the first day of spring, not being in winter", x.pass(90), 0);
        x.set(3, 91);
        x.set(2, 90);
        Checks.due("today does not begin winter any more", x.pass(1), 0);
        Checks.due("but the same day of the next year does", x.pass(359), 1);
        x.set(2, 92);
        x.set(3, 93);
        Checks.due("winter does not begin in winter", x.pass(2), 0);
        Checks.due("it is winter still", x.info(5), 1);
        Checks.due("spring begins", x.pass(1), 1);
        Checks.due("a year later winter and, a day later, spring", x.pass(360), 2);
        Checks.due("it is not winter", x.info(5), 0);
        x.set(2, 0);
        x.set(3, 359);
        Checks.due("winter on the first day of a year", x.pass(267), 1);
        Checks.due("d", x.info(4), 453 + 360 + 267);
        Checks.due("spring on its last one", x.pass(359), 1);
    }

    private static void dueBerths(MarinaBerths x, int... berths) {
        for (int boat = 0; boat < berths.length; boat++) {
            Checks.due("boat(" + boat + ", 4)", x.boat(boat, 4), berths[boat]);
        }
    }

    private static void pay() {
        MarinaBerths x = new MarinaBerths();
        x.addBoat(100, 100, 0);
        Checks.refused("a boat that owes nothing", x, Checks.ARGUMENT, () -> x.pay(0, 1));
        x.charge(0, MOST);
        Checks.undoable("pay(0, 1)", x, MOST - 1, () -> x.pay(0, 1));
        Checks.refused("more than it owes", x, Checks.ARGUMENT, () -> x.pay(0, MOST));
        Checks.refused("pay(0, 0)", x, Checks.ARGUMENT, () -> x.pay(0, 0));
        Checks.refused("pay(0, -1)", x, Checks.ARGUMENT, () -> x.pay(0, -1));
        Checks.undoable("all that it owes", x, 0, () -> x.pay(0, MOST - 1));
        Checks.due("all was paid", x.paid(), MOST);
        Checks.refused("no such boat", x, Checks.INDEX, () -> x.pay(1, 0));
        Checks.refused("boat -1", x, Checks.INDEX, () -> x.pay(-1, 1));
    }

    private static void charge() {
        MarinaBerths x = new MarinaBerths();
        x.addBoat(100, 100, 0);
        Checks.undoable("charge(0, 0)", x, 0, () -> x.charge(0, 0));
        Checks.due("a record is made though nothing changes", x.undo(), 1);
        Checks.undoable("charge(0, 5)", x, 5, () -> x.charge(0, 5));
        Checks.refused("too much", x, Checks.STATE, () -> x.charge(0, MOST - 4));
        Checks.refused("very much too much", x, Checks.STATE, () -> x.charge(0, MOST));
        Checks.undoable("just not too much", x, MOST, () -> x.charge(0, MOST - 5));
        Checks.refused("charge(0, 1)", x, Checks.STATE, () -> x.charge(0, 1));
        Checks.due("charge(0, 0) at the limit", x.charge(0, 0), MOST);
        Checks.refused("charge(0, -1)", x, Checks.ARGUMENT, () -> x.charge(0, -1));
        Checks.refused("no such boat", x, Checks.INDEX, () -> x.charge(1, -1));
        Checks.refused("boat -1", x, Checks.INDEX, () -> x.charge(-1, 1));
    }

    private static void owedAndPaid() {
        MarinaBerths x = new MarinaBerths();
        for (int k = 0; k < 20; k++) {
            x.addBoat(100, 100, 0);
            x.charge(k, MOST);
        }
        Checks.onlyTold("owed()", x, 20L * MOST, x::owed);
        Checks.onlyTold("paid() before a payment", x, 0, x::paid);
        for (int k = 0; k < 20; k++) {
            x.pay(k, MOST - k);
        }
        Checks.onlyTold("owed() after the payments", x, 190, x::owed);
        Checks.onlyTold("paid()", x, 20L * MOST - 190, x::paid);
        x.undo();
        Checks.due("owed() after an undo", x.owed(), 171L + MOST);
        Checks.due("paid() after an undo", x.paid(), 19L * MOST - 171);
    }
}
