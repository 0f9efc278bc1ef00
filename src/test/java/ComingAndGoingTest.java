/** Promises 12 to 18. */
final class ComingAndGoingTest {
    private static final int NONE = MarinaBerths.NONE;

    public static void main(String[] args) {
        place();
        placeInWinter();
        leave();
        leaveInWinter();
        change();
        changeInWinter();
        await();
        offer();
        waiting();
        waitingOnOneDay();
        bestBerth();
        fullMarina();
        Checks.finish("ComingAndGoingTest");
    }

    /** Berths 0 and 1 are exposed, 2 and 3 sheltered; all are 200 deep and 100, 110, 120, 130 long. */
    private static MarinaBerths marina(int... lengths) {
        MarinaBerths x = new MarinaBerths();
        for (int k = 0; k < 4; k++) {
            x.addBerth(200, 100 + 10 * k, k < 2, 0);
        }
        for (int length : lengths) {
            x.addBoat(length, 100, 0);
        }
        return x;
    }

    private static void winterTomorrow(MarinaBerths x) {
        x.set(2, (x.info(4) + 1) % 360);
        x.pass(1);
    }

    private static void springTomorrow(MarinaBerths x) {
        x.set(3, (x.info(4) + 1) % 360);
        x.pass(1);
    }

    private static void place() {
        MarinaBerths x = marina(100, 130, 105);
        Checks.undoable("place(0, 0)", x, NONE, () -> x.place(0, 0));
        Checks.due("its state", x.boat(0, 3), 1);
        Checks.due("the boat in the berth", x.berth(0, 4), 0);
        Checks.refused("the berth in which it is itself", x, Checks.STATE, () -> x.place(0, 0));
        Checks.undoable("from a berth to another", x, 0, () -> x.place(0, 1));
        Checks.due("its berth has become free", x.berth(0, 4), NONE);
        Checks.refused("a berth that is not free", x, Checks.STATE, () -> x.place(2, 1));
        Checks.refused("a berth that it does not fit", x, Checks.STATE, () -> x.place(1, 2));
        x.await(2);
        Checks.undoable("from the waiting list", x, NONE, () -> x.place(2, 2));
        Checks.due("it does not wait any more", x.info(9), 0);
        Checks.due("its points", x.boat(2, 5), NONE);
        Checks.refused("no such boat", x, Checks.INDEX, () -> x.place(3, 0));
        Checks.refused("boat -1", x, Checks.INDEX, () -> x.place(-1, 0));
        Checks.refused("no such berth", x, Checks.INDEX, () -> x.place(0, 4));
        Checks.refused("berth -1", x, Checks.INDEX, () -> x.place(0, -1));
    }

    private static void placeInWinter() {
        MarinaBerths x = marina(110, 100, 100);
        x.place(0, 1);
        x.place(1, 2);
        x.place(2, 3);
        winterTomorrow(x);
        Checks.due("it is ashore", x.boat(0, 3), 3);
        Checks.refused("an exposed berth in winter", x, Checks.STATE, () -> x.place(0, 1));
        x.leave(1);
        Checks.undoable("from the shore", x, NONE, () -> x.place(0, 2));
        Checks.due("it has no home any more", x.boat(0, 6), NONE);
        springTomorrow(x);
        Checks.due("so it stays in spring", x.boat(0, 4), 2);
        Checks.due("and an exposed berth can be taken again", x.place(1, 0), NONE);
    }

    private static void leave() {
        MarinaBerths x = marina(100, 100);
        Checks.refused("a boat that is away", x, Checks.STATE, () -> x.leave(0));
        x.place(0, 0);
        x.charge(0, 1);
        Checks.refused("a boat that owes something", x, Checks.STATE, () -> x.leave(0));
        x.pay(0, 1);
        Checks.undoable("from a berth", x, 1, () -> x.leave(0));
        Checks.due("its state", x.boat(0, 3), 0);
        Checks.due("its berth", x.boat(0, 4), NONE);
        Checks.due("the berth is free", x.berth(0, 4), NONE);
        x.await(1);
        Checks.undoable("from the waiting list", x, 2, () -> x.leave(1));
        Checks.due("nobody waits", x.waiting(0), NONE);
        Checks.refused("no such boat", x, Checks.INDEX, () -> x.leave(2));
        Checks.refused("boat -1", x, Checks.INDEX, () -> x.leave(-1));
    }

    private static void leaveInWinter() {
        MarinaBerths x = marina(120, 110, 110);
        x.place(1, 1);
        x.place(2, 2);
        x.place(0, 3);
        winterTomorrow(x);
        Checks.due("its home", x.boat(1, 6), 1);
        Checks.undoable("from the shore", x, 3, () -> x.leave(1));
        Checks.due("no home any more", x.boat(1, 6), NONE);
        springTomorrow(x);
        Checks.due("so it stays away in spring", x.boat(1, 3), 0);
    }

    private static void change() {
        MarinaBerths x = marina(100, 105, 115);
        x.place(0, 2);
        x.place(1, 3);
        Checks.undoable("change(0, 1)", x, 3, () -> x.change(0, 1));
        Checks.due("the berth of the other one", x.boat(1, 4), 2);
        Checks.due("the boat in berth 2", x.berth(2, 4), 1);
        Checks.due("the boat in berth 3", x.berth(3, 4), 0);
        Checks.refused("the other one is in no berth", x, Checks.STATE, () -> x.change(0, 2));
        Checks.refused("the first one is in no berth", x, Checks.STATE, () -> x.change(2, 0));
        x.place(0, 1);
        x.place(2, 3);
        Checks.refused("a boat does not fit the berth of the other one", x, Checks.STATE, () -> x.change(0, 2));
        Checks.refused("also the other way round", x, Checks.STATE, () -> x.change(2, 0));
        Checks.setTable(x, "-71");
        Checks.refused("the water has become too low", x, Checks.STATE, () -> x.change(0, 1));
        Checks.refused("both are the same", x, Checks.ARGUMENT, () -> x.change(1, 1));
        Checks.refused("both are no boat", x, Checks.INDEX, () -> x.change(3, 3));
        Checks.refused("the first one does not exist", x, Checks.INDEX, () -> x.change(-1, 1));
        Checks.refused("the other one does not exist", x, Checks.INDEX, () -> x.change(1, 3));
        Checks.refused("the other one is -1", x, Checks.INDEX, () -> x.change(1, -1));
    }

    private static void changeInWinter() {
        MarinaBerths x = marina(100, 100);
        x.place(0, 0);
        x.place(1, 2);
        winterTomorrow(x);
        Checks.due("it is in a sheltered berth, with a home", x.boat(0, 4) * 10 + x.boat(0, 6), 30);
        Checks.undoable("change(1, 0)", x, 3, () -> x.change(1, 0));
        Checks.due("the home is gone", x.boat(0, 6), NONE);
        springTomorrow(x);
        Checks.due("so it stays in spring", x.boat(0, 4), 2);
    }

    private static void await() {
        MarinaBerths x = new MarinaBerths();
        x.addBerth(200, 100, true, 0);
        x.addBoat(100, 100, 5);
        x.addBoat(100, 100, 5);
        x.addBoat(100, 100, 6);
        x.addBoat(100, 100, 3);
        x.addBoat(100, 100, 0);
        Checks.undoable("the first to wait", x, 0, () -> x.await(1));
        Checks.undoable("the same points, later", x, 1, () -> x.await(0));
        Checks.undoable("more points", x, 0, () -> x.await(2));
        x.pass(2);
        Checks.undoable("fewer points", x, 3, () -> x.await(3));
        Checks.due("its state", x.boat(3, 3), 2);
        Checks.due("its points", x.boat(3, 5), 3);
        Checks.due("the points of the first", x.boat(2, 5), 8);
        Checks.refused("a boat that waits", x, Checks.STATE, () -> x.await(0));
        x.place(4, 0);
        Checks.refused("a boat in a berth", x, Checks.STATE, () -> x.await(4));
        winterTomorrow(x);
        Checks.due("it is ashore", x.boat(4, 3), 3);
        Checks.refused("a boat ashore", x, Checks.STATE, () -> x.await(4));
        Checks.refused("no such boat", x, Checks.INDEX, () -> x.await(5));
        Checks.refused("boat -1", x, Checks.INDEX, () -> x.await(-1));
        x.leave(2);
        Checks.due("who waits again begins from 0 days", x.await(2) * 100 + x.boat(2, 5), 206);
    }

    private static void offer() {
        MarinaBerths x = new MarinaBerths();
        x.addBerth(200, 100, true, 0);
        x.addBerth(100, 50, false, 0);
        x.addBoat(120, 100, 50);
        x.addBoat(100, 100, 10);
        x.addBoat(100, 100, 20);
        x.await(0);
        x.await(1);
        x.await(2);
        Checks.undoable("nobody fits", x, NONE, () -> x.offer(1));
        Checks.due("a record is made then, too", x.undo(), 3);
        Checks.undoable("the first one is too long", x, 2, () -> x.offer(0));
        Checks.due("it is in the berth", x.boat(2, 4), 0);
        Checks.due("it does not wait any more", x.info(9), 2);
        Checks.refused("a berth that is not free", x, Checks.STATE, () -> x.offer(0));
        x.addBerth(300, 130, true, 0);
        Checks.undoable("the first one fits", x, 0, () -> x.offer(2));
        x.leave(2);
        Checks.undoable("the last one", x, 1, () -> x.offer(0));
        x.leave(1);
        winterTomorrow(x);
        Checks.refused("an exposed berth in winter", x, Checks.STATE, () -> x.offer(0));
        Checks.due("a sheltered one in winter", x.offer(1), NONE);
        Checks.refused("no such berth", x, Checks.INDEX, () -> x.offer(3));
        Checks.refused("berth -1", x, Checks.INDEX, () -> x.offer(-1));
    }

    private static void waiting() {
        MarinaBerths x = new MarinaBerths();
        int[] bonuses = {0, 2, 1, 3, 0};
        for (int bonus : bonuses) {
            x.addBoat(100, 100, bonus);
        }
        x.await(2);
        x.await(0);
        x.pass(1);
        x.await(4);
        x.await(1);
        // Points: boat 2 has 2, boat 0 has 1, boat 4 has 0, boat 1 has 2.
        dueList(x, 2, 1, 0, 4);
        x.pass(1);
        x.await(3);
        // Points: boat 2 has 3, boat 1 has 3, boat 3 has 3, boat 0 has 2, boat 4 has 1.
        dueList(x, 2, 1, 3, 0, 4);
        x.undo();
        dueList(x, 2, 1, 0, 4);
        Checks.due("waiting(-2147483648)", x.waiting(-2147483648), NONE);
        Checks.due("waiting(2147483647)", x.waiting(2147483647), NONE);
    }

    private static void waitingOnOneDay() {
        MarinaBerths x = new MarinaBerths();
        for (int k = 0; k < 3; k++) {
            x.addBoat(100, 100, 0);
        }
        x.await(2);
        x.await(1);
        x.leave(2);
        x.await(2);
        dueList(x, 1, 2);
        x.undo();
        x.undo();
        dueList(x, 2, 1);
        x.await(0);
        dueList(x, 2, 1, 0);
    }

    private static void dueList(MarinaBerths x, int... boats) {
        for (int k = 0; k < boats.length; k++) {
            int place = k;
            Checks.onlyTold("waiting(" + k + ")", x, boats[k], () -> x.waiting(place));
        }
        Checks.due("waiting(" + boats.length + ")", x.waiting(boats.length), NONE);
        Checks.due("waiting(-1)", x.waiting(-1), NONE);
    }

    private static void bestBerth() {
        MarinaBerths x = new MarinaBerths();
        x.addBerth(300, 120, false, 0);
        x.addBerth(250, 110, true, 0);
        x.addBerth(200, 110, true, 0);
        x.addBerth(200, 110, true, 0);
        x.addBerth(201, 110, true, 0);
        x.addBerth(120, 100, true, 0);
        x.addBerth(150, 115, true, 0);
        x.addBoat(100, 100, 0);
        x.addBoat(100, 90, 0);
        x.addBoat(121, 90, 0);
        Checks.onlyTold("smallest length, then smallest depth, then lowest", x, 2, () -> x.bestBerth(0));
        Checks.due("the smallest length comes first", x.bestBerth(1), 5);
        Checks.due("no berth is long enough", x.bestBerth(2), NONE);
        x.place(1, 2);
        Checks.due("a berth that is not free does not count", x.bestBerth(0), 3);
        x.undo();
        x.place(0, 2);
        Checks.due("that of the boat itself is not free either", x.bestBerth(0), 3);
        x.undo();
        winterTomorrow(x);
        Checks.due("in winter a sheltered one", x.bestBerth(0), 0);
        Checks.refused("no such boat", x, Checks.INDEX, () -> x.bestBerth(3));
        Checks.refused("boat -1", x, Checks.INDEX, () -> x.bestBerth(-1));
    }

    private static void fullMarina() {
        MarinaBerths x = new MarinaBerths();
        for (int k = 0; k < 16; k++) {
            x.addBerth(300, 100, k >= 8, 0);
        }
        for (int k = 0; k < 20; k++) {
            x.addBoat(100, 100, 0);
        }
        for (int k = 0; k < 16; k++) {
            x.place(k, k);
        }
        for (int k = 16; k < 20; k++) {
            Checks.due("await(" + k + ")", x.await(k), k - 16);
        }
        Checks.due("the last boat finds no berth", x.bestBerth(19), NONE);
        winterTomorrow(x);
        Checks.due("half of them are ashore", x.info(10), 8);
        springTomorrow(x);
        Checks.due("all are at home", x.info(8), 0);
        x.leave(15);
        Checks.due("the last berth", x.bestBerth(19), 15);
        x.leave(16);
        x.leave(17);
        x.leave(18);
        Checks.due("the last boat for the last berth", x.offer(15), 19);
        Checks.due("the boat in it", x.berth(15, 4), 19);
        Checks.due("nobody waits for it any more", x.waiting(0), NONE);
        x.leave(0);
        Checks.due("nobody waits for the first berth", x.offer(0), NONE);
    }
}
