/** Promises 24 to 29. */
final class InThoughtTest {
    private static final int NONE = MarinaBerths.NONE;
    private static final int MOST = 2147483647;

    public static void main(String[] args) {
        owesAfter();
        owesAfterInWinter();
        groundsIn();
        winterBerth();
        winterBerthByAlternatingWays();
        wouldGoAshore();
        greatestClearance();
        missingDepth();
        Checks.finish("InThoughtTest");
    }

    private static void owesAfter() {
        MarinaBerths x = new MarinaBerths();
        x.addBerth(300, 100, false, 3);
        x.addBoat(33, 100, 0);
        x.addBoat(50, 100, 0);
        x.place(0, 0);
        x.charge(0, 1);
        Checks.onlyTold("owesAfter(0, 1)", x, 10, () -> x.owesAfter(0, 1));
        Checks.onlyTold("owesAfter(0, 400)", x, 3601, () -> x.owesAfter(0, 400));
        Checks.onlyTold("a boat that is away", x, 0, () -> x.owesAfter(1, 400));
        x.charge(0, MOST - 19);
        Checks.onlyTold("up to the very limit", x, MOST, () -> x.owesAfter(0, 2));
        Checks.onlyTold("too much", x, NONE, () -> x.owesAfter(0, 3));
        Checks.onlyTold("another boat would owe too much", x, NONE, () -> x.owesAfter(1, 3));
        Checks.refused("owesAfter(0, 0)", x, Checks.ARGUMENT, () -> x.owesAfter(0, 0));
        Checks.refused("owesAfter(0, 401)", x, Checks.ARGUMENT, () -> x.owesAfter(0, 401));
        Checks.refused("owesAfter(2, 0)", x, Checks.INDEX, () -> x.owesAfter(2, 0));
        Checks.refused("owesAfter(-1, 1)", x, Checks.INDEX, () -> x.owesAfter(-1, 1));
    }

    private static void owesAfterInWinter() {
        MarinaBerths x = new MarinaBerths();
        x.addBerth(300, 100, true, 100);
        x.addBerth(300, 100, true, 10);
        x.addBerth(300, 100, false, 1);
        x.addBoat(30, 100, 0);
        x.addBoat(40, 100, 0);
        x.place(0, 0);
        x.place(1, 1);
        x.set(1, 1000);
        x.set(2, 2);
        x.set(3, 5);
        // Two days outside, three in the sheltered berth or ashore, five outside again.
        Checks.onlyTold("from the sheltered berth home", x, 7 * 300 + 3 * 3, () -> x.owesAfter(0, 10));
        Checks.onlyTold("from the shore home", x, 7 * 40 + 3 * 4000, () -> x.owesAfter(1, 10));
        x.pass(10);
        Checks.due("as it comes then", x.boat(0, 7), 2109);
        Checks.due("as it comes then, too", x.boat(1, 7), 12280);
    }

    private static void groundsIn() {
        MarinaBerths x = new MarinaBerths();
        x.addBerth(200, 100, false, 0);
        x.addBoat(100, 150, 0);
        x.addBoat(100, 150, 0);
        Checks.due("a boat in no berth", x.groundsIn(0), NONE);
        x.place(0, 0);
        Checks.onlyTold("never", x, NONE, () -> x.groundsIn(0));
        Checks.setTable(x, "0,-50,-51,20");
        Checks.onlyTold("only when the draft is greater than the water", x, 2, () -> x.groundsIn(0));
        x.pass(2);
        Checks.onlyTold("today", x, 0, () -> x.groundsIn(0));
        x.pass(1);
        Checks.onlyTold("when the table has come round", x, 3, () -> x.groundsIn(0));
        x.await(1);
        Checks.due("a boat that waits", x.groundsIn(1), NONE);
        Checks.refused("no such boat", x, Checks.INDEX, () -> x.groundsIn(2));
        Checks.refused("boat -1", x, Checks.INDEX, () -> x.groundsIn(-1));
    }

    private static void winterBerth() {
        MarinaBerths x = new MarinaBerths();
        x.addBerth(300, 100, true, 0);
        x.addBerth(300, 100, true, 0);
        x.addBerth(300, 100, false, 0);
        x.addBerth(300, 100, false, 0);
        for (int k = 0; k < 5; k++) {
            x.addBoat(100, 100, 0);
        }
        x.place(0, 1);
        x.place(1, 0);
        x.place(2, 2);
        x.await(3);
        Checks.onlyTold("the lowest boat", x, 3, () -> x.winterBerth(0));
        Checks.onlyTold("a boat that would go ashore", x, NONE, () -> x.winterBerth(1));
        Checks.onlyTold("a boat in a sheltered berth stays there", x, 2, () -> x.winterBerth(2));
        Checks.onlyTold("a boat that waits", x, NONE, () -> x.winterBerth(3));
        Checks.onlyTold("a boat that is away", x, NONE, () -> x.winterBerth(4));
        Checks.refused("no such boat", x, Checks.INDEX, () -> x.winterBerth(5));
        Checks.refused("boat -1", x, Checks.INDEX, () -> x.winterBerth(-1));
        x.set(2, 1);
        x.pass(1);
        Checks.refused("in winter", x, Checks.STATE, () -> x.winterBerth(0));
        Checks.refused("no such boat in winter", x, Checks.INDEX, () -> x.winterBerth(5));
    }

    /** Drafts and lengths tie each boat to few berths, so that a hasty choice would cost another boat its place. */
    private static void winterBerthByAlternatingWays() {
        MarinaBerths x = new MarinaBerths();
        for (int k = 0; k < 4; k++) {
            x.addBerth(900, 400, true, 0);
        }
        x.addBerth(200, 300, false, 0);
        x.addBerth(300, 200, false, 0);
        x.addBerth(400, 100, false, 0);
        // Boat 0 fits all three, boat 1 the berths 4 and 5, boat 2 only 5, boat 3 only 4.
        x.addBoat(100, 170, 0);
        x.addBoat(200, 170, 0);
        x.addBoat(150, 270, 0);
        x.addBoat(250, 100, 0);
        x.place(0, 0);
        x.place(1, 1);
        x.place(2, 2);
        dueWinter(x, 6, 4, 5, NONE);
        x.place(3, 3);
        // Three can stay at most: boat 0 only in 6, then boat 1 in 4, boat 2 in 5.
        dueWinter(x, 6, 4, 5, NONE);
        x.leave(1);
        dueWinter(x, 6, NONE, 5, 4);
        x.leave(2);
        dueWinter(x, 5, NONE, NONE, 4);
        x.leave(3);
        dueWinter(x, 4, NONE, NONE, NONE);
    }

    private static void dueWinter(MarinaBerths x, int... berths) {
        for (int k = 0; k < berths.length; k++) {
            int boat = k;
            Checks.onlyTold("winterBerth(" + k + ")", x, berths[k], () -> x.winterBerth(boat));
        }
    }

    private static void wouldGoAshore() {
        MarinaBerths x = new MarinaBerths();
        Checks.onlyTold("without boats", x, 0, x::wouldGoAshore);
        for (int k = 0; k < 4; k++) {
            x.addBerth(300, 100, k < 3, 0);
            x.addBoat(100, 100, 0);
        }
        x.place(0, 0);
        x.place(1, 1);
        x.place(2, 2);
        Checks.onlyTold("all but one", x, 2, x::wouldGoAshore);
        x.set(0, 100);
        x.place(3, 3);
        Checks.onlyTold("all of them", x, 3, x::wouldGoAshore);
        x.leave(0);
        Checks.onlyTold("one fewer", x, 2, x::wouldGoAshore);
        x.set(2, 1);
        x.pass(1);
        Checks.due("as it comes then", x.info(10), 2);
        Checks.refused("in winter", x, Checks.STATE, x::wouldGoAshore);
        x.set(3, 2);
        x.pass(1);
        Checks.onlyTold("in spring again", x, 2, x::wouldGoAshore);
    }

    private static void greatestClearance() {
        MarinaBerths x = new MarinaBerths();
        Checks.onlyTold("no boat is in a berth", x, 100, x::greatestClearance);
        x.addBerth(200, 100, true, 0);
        x.addBerth(300, 100, true, 0);
        x.addBoat(100, 150, 0);
        x.addBoat(100, 100, 0);
        x.addBoat(100, 500, 0);
        Checks.due("boats that are away do not count", x.greatestClearance(), 100);
        x.place(1, 1);
        Checks.due("never more than 100", x.greatestClearance(), 100);
        x.place(0, 0);
        Checks.onlyTold("200 - 150", x, 50, x::greatestClearance);
        Checks.setTable(x, "10,-50");
        Checks.onlyTold("just 0", x, 0, x::greatestClearance);
        Checks.setTable(x, "-51,10");
        Checks.onlyTold("there is none", x, NONE, x::greatestClearance);
        Checks.setTable(x, "49");
        Checks.onlyTold("just 99", x, 99, x::greatestClearance);
        x.set(0, 0);
        Checks.onlyTold("the clearance of now does not matter", x, 99, x::greatestClearance);
    }

    private static void missingDepth() {
        MarinaBerths x = new MarinaBerths();
        x.addBerth(200, 100, true, 0);
        x.addBoat(100, 170, 0);
        x.addBoat(100, 171, 0);
        x.addBoat(101, 20, 0);
        x.addBoat(101, 500, 0);
        Checks.onlyTold("it fits", x, 0, () -> x.missingDepth(0, 0));
        Checks.onlyTold("one is missing", x, 1, () -> x.missingDepth(1, 0));
        Checks.onlyTold("its length does not fit", x, NONE, () -> x.missingDepth(2, 0));
        Checks.onlyTold("neither length nor depth", x, NONE, () -> x.missingDepth(3, 0));
        Checks.setTable(x, "0,-300");
        x.set(0, 100);
        Checks.onlyTold("with low water and more clearance", x, 371, () -> x.missingDepth(1, 0));
        Checks.setTable(x, "300");
        Checks.onlyTold("much more than needed", x, 0, () -> x.missingDepth(1, 0));
        Checks.refused("no such boat", x, Checks.INDEX, () -> x.missingDepth(4, 0));
        Checks.refused("boat -1", x, Checks.INDEX, () -> x.missingDepth(-1, 0));
        Checks.refused("no such berth", x, Checks.INDEX, () -> x.missingDepth(0, 1));
        Checks.refused("berth -1", x, Checks.INDEX, () -> x.missingDepth(0, -1));
    }
}
