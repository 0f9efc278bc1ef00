/** Promises 12 to 18, sentence by sentence. */
final class EdgesOfComingAndGoingTest extends Edges {
    private static final Start EMPTY = MarinaBerths::new;

    /** Berths 0 and 1 exposed, 2 and 3 sheltered, all 200 deep, 100, 110, 120, 130 long; boat 3 just fits berth 3. */
    private static final Start FOUR = start(x -> {
        for (int k = 0; k < 4; k++) {
            x.addBerth(200, 100 + 10 * k, k < 2, 0);
        }
        x.addBoat(100, 100, 0);
        x.addBoat(100, 100, 0);
        x.addBoat(110, 100, 0);
        x.addBoat(130, 170, 0);
    });

    /** Boats 0 and 1 came from the berths 0 and 1: boat 0 is in berth 2, boat 1 ashore, boat 3 is in berth 3. */
    private static final Start WINTER = then(FOUR, x -> { x.place(0, 0); x.place(1, 1); x.place(3, 3); winter(x); });

    private static final Start FULL = start(x -> { berths(x, false, 16); boats(x, 20); });

    public static void main(String[] args) {
        hold(EdgesOfComingAndGoingTest.class);
    }

    // ---- promise 12: place

    @Says(promise = 12, words = {"Puts a boat into a berth, from wherever it is", "Undoable."})
    static void placeFromWhereverItIs() {
        does(FOUR, "place(0, 0) from away", NONE, x -> x.place(0, 0));
        does(then(FOUR, x -> x.await(0)), "place(0, 0) from the waiting list", NONE, x -> x.place(0, 0));
        does(then(FOUR, x -> x.place(0, 1)), "place(0, 0) from another berth", 1, x -> x.place(0, 0));
        Start ashore = then(WINTER, x -> { x.leave(3); });
        does(ashore, "place(1, 3) from the shore", NONE, x -> x.place(1, 3));
        Start[] starts = {FOUR, then(FOUR, x -> x.await(1)), then(FOUR, x -> x.place(1, 1)), ashore};
        for (Start start : starts) {
            Start placed = then(start, x -> x.place(1, 3));
            tells(placed, "its state", 1, x -> x.boat(1, 3));
            tells(placed, "its berth", 3, x -> x.boat(1, 4));
            tells(placed, "the boat in the berth", 1, x -> x.berth(3, 4));
        }
        does(FULL, "the last boat into the last berth", NONE, x -> x.place(19, 15));
    }

    @Says(promise = 12, words = "(its berth becomes free, it does not wait any more)")
    static void placeFreesWhereItWas() {
        Start moved = then(FOUR, x -> { x.place(0, 1); x.place(0, 0); });
        tells(moved, "the boat in the berth that it left", NONE, x -> x.berth(1, 4));
        tells(moved, "free berths", 3, x -> x.info(8));
        does(moved, "another boat into the berth that it left", NONE, x -> x.place(1, 1));
        Start waited = then(FOUR, x -> { x.await(0); x.await(1); x.place(0, 0); });
        tells(waited, "boats that wait", 1, x -> x.info(9));
        tells(waited, "the first that waits", 1, x -> x.waiting(0));
        tells(waited, "its points", NONE, x -> x.boat(0, 5));
        refuses(waited, "await(0)", STATE, x -> x.await(0));
    }

    @Says(promise = 12, words = "Returns the berth in which it was; NONE if it was in none.")
    static void placeReturnsWhereItWas() {
        does(then(FOUR, x -> x.place(0, 0)), "from berth 0", 0, x -> x.place(0, 3));
        does(then(FOUR, x -> x.place(0, 3)), "from berth 3", 3, x -> x.place(0, 0));
        does(FOUR, "from no berth", NONE, x -> x.place(0, 0));
        does(then(FOUR, x -> { x.place(0, 3); x.leave(0); }), "from away again", NONE, x -> x.place(0, 0));
        does(then(FULL, x -> x.place(0, 15)), "from berth 15", 15, x -> x.place(0, 0));
    }

    @Says(promise = 12, words = "Throws IndexOutOfBoundsException if there is no such boat or berth")
    static void placeOfNoBoatOrBerth() {
        refuses(FOUR, "place(4, 0)", INDEX, x -> x.place(4, 0));
        refuses(FOUR, "place(-1, 0)", INDEX, x -> x.place(-1, 0));
        refuses(FOUR, "place(0, 4)", INDEX, x -> x.place(0, 4));
        refuses(FOUR, "place(0, -1)", INDEX, x -> x.place(0, -1));
        refuses(EMPTY, "place(0, 0) of a new object", INDEX, x -> x.place(0, 0));
        refuses(FULL, "place(20, 15)", INDEX, x -> x.place(20, 15));
        refuses(FULL, "place(19, 16)", INDEX, x -> x.place(19, 16));
        refuses(FULL, "place(2147483647, 0)", INDEX, x -> x.place(MOST, 0));
        refuses(FULL, "place(0, -2147483648)", INDEX, x -> x.place(0, LEAST));
    }

    @Says(promise = 12, words = "Throws IllegalStateException if the berth is not free")
    static void placeIntoATakenBerth() {
        Start taken = then(FOUR, x -> x.place(0, 0));
        refuses(taken, "place(1, 0)", STATE, x -> x.place(1, 0));
        does(then(taken, x -> x.leave(0)), "place(1, 0) when it is free again", NONE, x -> x.place(1, 0));
        does(then(taken, x -> x.place(0, 1)), "place(1, 0) when the boat has moved", NONE, x -> x.place(1, 0));
    }

    @Says(promise = 12, words = "(also if the boat itself is in it)")
    static void placeIntoItsOwnBerth() {
        refuses(then(FOUR, x -> x.place(0, 0)), "place(0, 0) once more", STATE, x -> x.place(0, 0));
        refuses(then(FULL, x -> x.place(19, 15)), "place(19, 15) once more", STATE, x -> x.place(19, 15));
    }

    @Says(promise = 12, words = "the boat does not fit it")
    static void placeIntoABerthThatItDoesNotFit() {
        does(FOUR, "a boat of 110 into a berth of 110", NONE, x -> x.place(2, 1));
        refuses(FOUR, "a boat of 110 into a berth of 100", STATE, x -> x.place(2, 0));
        does(FOUR, "170 + 30 into 200", NONE, x -> x.place(3, 3));
        refuses(then(FOUR, x -> x.set(0, 31)), "170 + 31 into 200", STATE, x -> x.place(3, 3));
        refuses(then(FOUR, x -> table(x, "9,-1")), "170 + 30 into 200 - 1", STATE, x -> x.place(3, 3));
        does(then(FOUR, x -> { table(x, "9,-1"); x.set(0, 29); }), "170 + 29 into 200 - 1", NONE, x -> x.place(3, 3));
    }

    @Says(promise = 12, words = "or it is exposed and it is winter")
    static void placeIntoAnExposedBerthInWinter() {
        does(FOUR, "exposed, not in winter", NONE, x -> x.place(2, 1));
        Start winter = then(FOUR, x -> winter(x));
        refuses(winter, "exposed, in winter", STATE, x -> x.place(2, 1));
        does(winter, "sheltered, in winter", NONE, x -> x.place(2, 2));
        refuses(WINTER, "back to its home in winter", STATE, x -> x.place(1, 1));
        does(then(winter, x -> spring(x)), "exposed, in spring", NONE, x -> x.place(2, 1));
    }

    // ---- promise 13: leave

    @Says(promise = 13, words = {"Lets a boat go away from its berth, the waiting list or the shore.", "Undoable."})
    static void leaveFromWhereverItIs() {
        Start[] starts = {then(FOUR, x -> x.place(1, 1)), then(FOUR, x -> x.await(1)), WINTER};
        int[] states = {1, 2, 3};
        for (int k = 0; k < starts.length; k++) {
            does(starts[k], "leave(1) in the state " + states[k], states[k], x -> x.leave(1));
            Start left = then(starts[k], x -> x.leave(1));
            tells(left, "its state", 0, x -> x.boat(1, 3));
            tells(left, "its berth", NONE, x -> x.boat(1, 4));
            tells(left, "its points", NONE, x -> x.boat(1, 5));
            tells(left, "its home", NONE, x -> x.boat(1, 6));
            tells(left, "the berth", NONE, x -> x.berth(1, 4));
            tells(left, "the waiting list", NONE, x -> x.waiting(0));
        }
        tells(then(WINTER, x -> x.leave(1)), "boats ashore", 0, x -> x.info(10));
    }

    @Says(promise = 13, words = "Returns the state in which it was.")
    static void leaveReturnsTheState() {
        does(then(FOUR, x -> x.place(0, 0)), "from a berth", 1, x -> x.leave(0));
        does(then(FOUR, x -> x.await(0)), "from the waiting list", 2, x -> x.leave(0));
        does(WINTER, "from the shore", 3, x -> x.leave(1));
        does(WINTER, "from a berth in winter", 1, x -> x.leave(0));
    }

    @Says(promise = 13, words = "Throws IndexOutOfBoundsException if there is no such boat")
    static void leaveOfNoBoat() {
        refuses(FOUR, "leave(4)", INDEX, x -> x.leave(4));
        refuses(FOUR, "leave(-1)", INDEX, x -> x.leave(-1));
        refuses(EMPTY, "leave(0) without boats", INDEX, x -> x.leave(0));
        does(then(FULL, x -> x.await(19)), "leave(19)", 2, x -> x.leave(19));
        refuses(FULL, "leave(20)", INDEX, x -> x.leave(20));
        refuses(FULL, "leave(2147483647)", INDEX, x -> x.leave(MOST));
        refuses(FULL, "leave(-2147483648)", INDEX, x -> x.leave(LEAST));
    }

    @Says(promise = 13, words = "Throws IllegalStateException if it is away")
    static void leaveOfABoatThatIsAway() {
        refuses(FOUR, "leave(0) of a boat that never came", STATE, x -> x.leave(0));
        refuses(then(FOUR, x -> { x.place(0, 0); x.leave(0); }), "leave(0) twice", STATE, x -> x.leave(0));
        refuses(then(FOUR, x -> x.charge(0, 1)), "leave(0), away and owing", STATE, x -> x.leave(0));
    }

    @Says(promise = 13, words = "or it owes something")
    static void leaveOfABoatThatOwes() {
        Start owing = then(FOUR, x -> { x.place(0, 0); x.await(1); x.charge(0, 1); x.charge(1, MOST); });
        refuses(owing, "leave(0), owing 1", STATE, x -> x.leave(0));
        refuses(owing, "leave(1), owing the most", STATE, x -> x.leave(1));
        does(then(owing, x -> x.pay(0, 1)), "leave(0) when it has paid", 1, x -> x.leave(0));
        does(then(owing, x -> x.pay(1, MOST)), "leave(1) when it has paid", 2, x -> x.leave(1));
        refuses(then(WINTER, x -> x.charge(1, 1)), "leave(1) from the shore, owing 1", STATE, x -> x.leave(1));
        does(then(owing, x -> x.place(2, 1)), "leave(2), the others owing", 1, x -> x.leave(2));
    }

    // ---- promise 14: change

    /** Boat 0 in berth 2, boat 2 in berth 3; boat 3, which just fits berth 3, is away. */
    private static final Start PAIR = then(FOUR, x -> { x.place(0, 2); x.place(2, 3); });

    @Says(promise = 14, words = {"Lets two boats in berths change places.", "Undoable.",
            "Returns the berth in which the first one is then."})
    static void changeOfTwoBoats() {
        does(PAIR, "change(0, 2)", 3, x -> x.change(0, 2));
        does(PAIR, "change(2, 0)", 2, x -> x.change(2, 0));
        Start changed = then(PAIR, x -> x.change(0, 2));
        tells(changed, "berth of boat 0", 3, x -> x.boat(0, 4));
        tells(changed, "berth of boat 2", 2, x -> x.boat(2, 4));
        tells(changed, "boat in berth 2", 2, x -> x.berth(2, 4));
        tells(changed, "boat in berth 3", 0, x -> x.berth(3, 4));
        tells(changed, "free berths", 2, x -> x.info(8));
        does(changed, "change(0, 2) back", 2, x -> x.change(0, 2));
        does(then(FULL, x -> { x.place(0, 15); x.place(19, 0); }), "the first and the last", 0, x -> x.change(0, 19));
        does(then(WINTER, x -> { x.leave(3); x.place(2, 3); }), "in winter", 3, x -> x.change(0, 2));
    }

    @Says(promise = 14, words = "Throws IndexOutOfBoundsException if one of the boats does not exist")
    static void changeOfNoBoat() {
        refuses(PAIR, "change(4, 0)", INDEX, x -> x.change(4, 0));
        refuses(PAIR, "change(0, 4)", INDEX, x -> x.change(0, 4));
        refuses(PAIR, "change(-1, 0)", INDEX, x -> x.change(-1, 0));
        refuses(PAIR, "change(0, -1)", INDEX, x -> x.change(0, -1));
        refuses(PAIR, "change(4, 4)", INDEX, x -> x.change(4, 4));
        refuses(PAIR, "change(-1, -1)", INDEX, x -> x.change(-1, -1));
        refuses(EMPTY, "change(0, 1) without boats", INDEX, x -> x.change(0, 1));
        refuses(FULL, "change(19, 20)", INDEX, x -> x.change(19, 20));
        refuses(FULL, "change(2147483647, -2147483648)", INDEX, x -> x.change(MOST, LEAST));
    }

    @Says(promise = 14, words = {"other: another one", "Throws IllegalArgumentException if both are the same"})
    static void changeOfTheSameBoat() {
        refuses(PAIR, "change(0, 0)", ARGUMENT, x -> x.change(0, 0));
        refuses(PAIR, "change(1, 1) of a boat in no berth", ARGUMENT, x -> x.change(1, 1));
        refuses(FULL, "change(19, 19)", ARGUMENT, x -> x.change(19, 19));
    }

    @Says(promise = 14, words = "Throws IllegalStateException if one of them is in no berth")
    static void changeWithABoatInNoBerth() {
        refuses(PAIR, "change(0, 1), the other one away", STATE, x -> x.change(0, 1));
        refuses(PAIR, "change(1, 0), the first one away", STATE, x -> x.change(1, 0));
        refuses(PAIR, "change(1, 3), both away", STATE, x -> x.change(1, 3));
        refuses(then(PAIR, x -> x.await(1)), "change(0, 1), the other one waiting", STATE, x -> x.change(0, 1));
        refuses(WINTER, "change(1, 0), the first one ashore", STATE, x -> x.change(1, 0));
        does(then(PAIR, x -> x.place(1, 0)), "change(1, 0) of two in berths", 2, x -> x.change(1, 0));
    }

    @Says(promise = 14, words = "or does not fit the berth of the other one")
    static void changeWithABerthThatDoesNotFit() {
        // Boat 2 is 110 long, berth 0 only 100, berth 1 just 110; boat 0 fits everywhere.
        Start short0 = then(FOUR, x -> { x.place(0, 0); x.place(2, 1); });
        refuses(short0, "change(0, 2), the other one too long", STATE, x -> x.change(0, 2));
        refuses(short0, "change(2, 0), the first one too long", STATE, x -> x.change(2, 0));
        Start just = then(FOUR, x -> { x.place(0, 1); x.place(2, 2); });
        does(just, "change(0, 2), just long enough", 2, x -> x.change(0, 2));
        does(then(just, x -> x.set(0, 100)), "with 100 + 100 in 200", 2, x -> x.change(0, 2));
        refuses(then(just, x -> table(x, "-71")), "with 100 + 30 in 200 - 71", STATE, x -> x.change(0, 2));
        does(then(just, x -> table(x, "-70")), "with 100 + 30 in 200 - 70", 2, x -> x.change(0, 2));
    }

    // ---- promise 15: await

    @Says(promise = 15, words = {"Lets a boat that is away begin to wait.", "Undoable."})
    static void awaitLetsABoatWait() {
        does(FOUR, "await(0)", 0, x -> x.await(0));
        Start waiting = then(FOUR, x -> { x.pass(5); x.await(0); });
        tells(waiting, "its state", 2, x -> x.boat(0, 3));
        tells(waiting, "its points", 0, x -> x.boat(0, 5));
        tells(waiting, "boats that wait", 1, x -> x.info(9));
        tells(waiting, "the first that waits", 0, x -> x.waiting(0));
        does(then(FOUR, x -> x.charge(0, 5)), "await(0) of a boat that owes", 0, x -> x.await(0));
    }

    @Says(promise = 15, words = "Returns its place in the waiting list, from 0.")
    static void awaitReturnsItsPlace() {
        Start bonuses = start(x -> {
            int[] all = {5, 5, 6, 4, 0};
            for (int bonus : all) {
                x.addBoat(100, 100, bonus);
            }
            x.await(0);
        });
        does(bonuses, "as many points, later", 1, x -> x.await(1));
        does(bonuses, "1 point more", 0, x -> x.await(2));
        does(bonuses, "1 point fewer", 1, x -> x.await(3));
        Start three = then(bonuses, x -> { x.await(2); x.await(3); });
        does(three, "between others", 2, x -> x.await(1));
        does(three, "the last place", 3, x -> x.await(4));
        does(then(bonuses, x -> x.pass(1)), "a day later, 6 points as well", 1, x -> x.await(2));
        Start all = then(FULL, x -> {
            for (int k = 0; k < 19; k++) {
                x.await(k);
            }
        });
        does(all, "the place of the 20th", 19, x -> x.await(19));
    }

    @Says(promise = 15, words = "Throws IndexOutOfBoundsException if there is no such boat")
    static void awaitOfNoBoat() {
        refuses(FOUR, "await(4)", INDEX, x -> x.await(4));
        refuses(FOUR, "await(-1)", INDEX, x -> x.await(-1));
        refuses(EMPTY, "await(0) without boats", INDEX, x -> x.await(0));
        does(FULL, "await(19)", 0, x -> x.await(19));
        refuses(FULL, "await(20)", INDEX, x -> x.await(20));
        refuses(FULL, "await(2147483647)", INDEX, x -> x.await(MOST));
        refuses(FULL, "await(-2147483648)", INDEX, x -> x.await(LEAST));
    }

    @Says(promise = 15, words = "Throws IllegalStateException if it is not away")
    static void awaitOfABoatThatIsNotAway() {
        refuses(then(FOUR, x -> x.place(0, 0)), "await(0) in a berth", STATE, x -> x.await(0));
        refuses(then(FOUR, x -> x.await(0)), "await(0) twice", STATE, x -> x.await(0));
        refuses(WINTER, "await(1) ashore", STATE, x -> x.await(1));
        does(then(WINTER, x -> x.leave(1)), "await(1) when it has left", 0, x -> x.await(1));
    }

    // ---- promise 16: offer

    @Says(promise = 16, words = {"Gives a free berth to the first boat of the waiting list that fits it.", "Undoable."})
    static void offerToTheFirstThatFits() {
        // In the list: boat 3 (130 long), boat 2 (110), boat 0 and boat 1 (100).
        Start list = then(FOUR, x -> { x.await(3); x.await(2); x.await(0); x.await(1); });
        does(list, "offer(3), the first one just fits", 3, x -> x.offer(3));
        does(list, "offer(2), the second one fits", 2, x -> x.offer(2));
        does(list, "offer(1), the second one just fits", 2, x -> x.offer(1));
        does(list, "offer(0), the third one just fits", 0, x -> x.offer(0));
        does(then(list, x -> x.offer(0)), "offer(1) after offer(0)", 2, x -> x.offer(1));
        does(then(list, x -> { x.offer(0); x.leave(0); }), "offer(0) when it is free again", 1, x -> x.offer(0));
        Start offered = then(list, x -> x.offer(0));
        tells(offered, "its state", 1, x -> x.boat(0, 3));
        tells(offered, "its berth", 0, x -> x.boat(0, 4));
        tells(offered, "boats that wait", 3, x -> x.info(9));
        does(then(list, x -> x.set(0, 31)), "offer(3), the first one being too deep by 1", 2, x -> x.offer(3));
        // More points count more than an earlier beginning.
        Start points = start(x -> {
            berths(x, true, 1);
            x.addBoat(100, 100, 0);
            x.addBoat(100, 100, 1);
            x.await(0);
            x.await(1);
        });
        does(points, "offer(0) to the one with more points", 1, x -> x.offer(0));
        does(then(FULL, x -> x.await(19)), "the last boat for the last berth", 19, x -> x.offer(15));
    }

    @Says(promise = 16, words = "Returns the boat; NONE if no waiting boat fits it.")
    static void offerReturnsNone() {
        does(FOUR, "nobody waits", NONE, x -> x.offer(3));
        does(then(FOUR, x -> x.await(3)), "who waits is too long", NONE, x -> x.offer(2));
        does(then(FOUR, x -> { x.await(3); x.set(0, 31); }), "who waits is too deep", NONE, x -> x.offer(3));
        does(then(FOUR, x -> x.await(3)), "who waits just fits", 3, x -> x.offer(3));
        tells(then(FOUR, x -> { x.await(3); x.offer(2); }), "the list when nobody took it", 3, x -> x.waiting(0));
        tells(then(FOUR, x -> { x.await(3); x.offer(2); }), "the berth then", NONE, x -> x.berth(2, 4));
    }

    @Says(promise = 16, words = "Throws IndexOutOfBoundsException if there is no such berth")
    static void offerOfNoBerth() {
        refuses(FOUR, "offer(4)", INDEX, x -> x.offer(4));
        refuses(FOUR, "offer(-1)", INDEX, x -> x.offer(-1));
        refuses(EMPTY, "offer(0) without berths", INDEX, x -> x.offer(0));
        does(FULL, "offer(15)", NONE, x -> x.offer(15));
        refuses(FULL, "offer(16)", INDEX, x -> x.offer(16));
        refuses(FULL, "offer(2147483647)", INDEX, x -> x.offer(MOST));
        refuses(FULL, "offer(-2147483648)", INDEX, x -> x.offer(LEAST));
    }

    @Says(promise = 16, words = "Throws IllegalStateException if it is not free, or it is exposed and it is winter")
    static void offerOfABerthThatIsNotOpen() {
        Start taken = then(FOUR, x -> { x.place(0, 0); x.await(1); });
        refuses(taken, "offer(0) of a taken berth", STATE, x -> x.offer(0));
        refuses(then(taken, x -> x.leave(1)), "offer(0) of a taken berth, nobody waiting", STATE, x -> x.offer(0));
        does(then(taken, x -> x.leave(0)), "offer(0) when it is free", 1, x -> x.offer(0));
        Start winter = then(FOUR, x -> { x.await(1); winter(x); });
        refuses(winter, "offer(1) of an exposed berth in winter", STATE, x -> x.offer(1));
        does(winter, "offer(2) of a sheltered one in winter", 1, x -> x.offer(2));
        does(then(FOUR, x -> x.await(1)), "offer(1) of an exposed one, not in winter", 1, x -> x.offer(1));
        does(then(winter, x -> spring(x)), "offer(1) of an exposed one in spring", 1, x -> x.offer(1));
    }

    // ---- promise 17: waiting

    @Says(promise = 17, words = {"Returns a boat of the waiting list.", "k: its place, from 0"})
    static void waitingReturnsTheBoatAtAPlace() {
        Start list = then(FOUR, x -> { x.await(3); x.await(1); x.await(2); });
        tells(list, "waiting(0)", 3, x -> x.waiting(0));
        tells(list, "waiting(1)", 1, x -> x.waiting(1));
        tells(list, "waiting(2)", 2, x -> x.waiting(2));
        Start shorter = then(list, x -> x.leave(3));
        tells(shorter, "waiting(0) when the first has left", 1, x -> x.waiting(0));
        Start all = then(FULL, x -> {
            for (int k = 19; k >= 0; k--) {
                x.await(k);
            }
        });
        for (int k = 0; k < 20; k++) {
            int place = k;
            tells(all, "waiting(" + k + ") of 20", 19 - k, x -> x.waiting(place));
        }
    }

    @Says(promise = 17, words = "Returns the boat; NONE if there is none (also if k is negative).")
    static void waitingWhereThereIsNone() {
        tells(EMPTY, "waiting(0) of a new object", NONE, x -> x.waiting(0));
        tells(FOUR, "waiting(0), nobody waiting", NONE, x -> x.waiting(0));
        Start one = then(FOUR, x -> x.await(2));
        tells(one, "waiting(0)", 2, x -> x.waiting(0));
        tells(one, "waiting(1)", NONE, x -> x.waiting(1));
        tells(one, "waiting(-1)", NONE, x -> x.waiting(-1));
        tells(one, "waiting(2147483647)", NONE, x -> x.waiting(MOST));
        tells(one, "waiting(-2147483648)", NONE, x -> x.waiting(LEAST));
        Start all = then(FULL, x -> {
            for (int k = 0; k < 20; k++) {
                x.await(k);
            }
        });
        tells(all, "waiting(19) of 20", 19, x -> x.waiting(19));
        tells(all, "waiting(20) of 20", NONE, x -> x.waiting(20));
    }

    // ---- promise 18: bestBerth

    @Says(promise = 18, words = "Returns the free berth that is best for a boat: one that it fits")
    static void bestBerthIsFreeAndFits() {
        tells(FOUR, "for a boat of 100", 0, x -> x.bestBerth(0));
        tells(FOUR, "for a boat of 110", 1, x -> x.bestBerth(2));
        tells(FOUR, "for a boat of 130", 3, x -> x.bestBerth(3));
        tells(then(FOUR, x -> x.place(1, 0)), "when that is taken by another boat", 1, x -> x.bestBerth(0));
        tells(then(FOUR, x -> x.place(0, 0)), "when it is in it itself", 1, x -> x.bestBerth(0));
        tells(then(FOUR, x -> x.set(0, 31)), "for a boat that is too deep by 1", NONE, x -> x.bestBerth(3));
        tells(then(FOUR, x -> table(x, "0,-1")), "with 1 less water some day", NONE, x -> x.bestBerth(3));
    }

    @Says(promise = 18, words = "(in winter a sheltered one)")
    static void bestBerthInWinterIsSheltered() {
        Start winter = then(FOUR, x -> winter(x));
        tells(FOUR, "not in winter", 0, x -> x.bestBerth(0));
        tells(winter, "in winter", 2, x -> x.bestBerth(0));
        tells(WINTER, "in winter, both sheltered ones taken", NONE, x -> x.bestBerth(1));
        tells(then(winter, x -> spring(x)), "in spring", 0, x -> x.bestBerth(0));
    }

    @Says(promise = 18, words = "with the smallest length, of several the one with the smallest depth, of several the"
            + " lowest one.")
    static void bestBerthIsTheSmallest() {
        dueBest(1, 300, 101, 300, 100);
        dueBest(0, 300, 100, 300, 101);
        // Length counts more than depth.
        dueBest(1, 200, 101, 900, 100);
        dueBest(0, 900, 100, 200, 101);
        dueBest(1, 201, 100, 200, 100);
        dueBest(0, 200, 100, 201, 100);
        dueBest(0, 200, 100, 200, 100);
        dueBest(1, 201, 100, 200, 100, 200, 100);
        tells(FULL, "of 16 that are the same", 0, x -> x.bestBerth(19));
    }

    /** Depths and lengths of the berths one after the other. */
    private static void dueBest(int want, int... sizes) {
        Start start = start(x -> {
            for (int k = 0; k < sizes.length; k += 2) {
                x.addBerth(sizes[k], sizes[k + 1], true, 0);
            }
            boats(x, 1);
        });
        tells(start, "bestBerth(0)", want, x -> x.bestBerth(0));
    }

    @Says(promise = 18, words = "Returns the berth; NONE if there is none.")
    static void bestBerthWhereThereIsNone() {
        tells(start(x -> boats(x, 1)), "without berths", NONE, x -> x.bestBerth(0));
        Start one = start(x -> { x.addBerth(130, 100, true, 0); boats(x, 2); x.addBoat(101, 20, 0); });
        tells(one, "a berth that just fits", 0, x -> x.bestBerth(0));
        tells(one, "a berth that is too short by 1", NONE, x -> x.bestBerth(2));
        tells(then(one, x -> x.place(1, 0)), "the only berth is taken", NONE, x -> x.bestBerth(0));
        tells(then(one, x -> winter(x)), "the only berth is exposed in winter", NONE, x -> x.bestBerth(0));
        Start full = then(FULL, x -> {
            for (int k = 0; k < 16; k++) {
                x.place(k, k);
            }
        });
        tells(full, "all 16 berths are taken", NONE, x -> x.bestBerth(19));
        tells(then(full, x -> x.leave(15)), "the last of 16 is free", 15, x -> x.bestBerth(19));
    }

    @Says(promise = 18, words = "Throws IndexOutOfBoundsException if there is no such boat")
    static void bestBerthOfNoBoat() {
        refuses(FOUR, "bestBerth(4)", INDEX, x -> x.bestBerth(4));
        refuses(FOUR, "bestBerth(-1)", INDEX, x -> x.bestBerth(-1));
        refuses(EMPTY, "bestBerth(0) without boats", INDEX, x -> x.bestBerth(0));
        refuses(FULL, "bestBerth(20)", INDEX, x -> x.bestBerth(20));
        refuses(FULL, "bestBerth(2147483647)", INDEX, x -> x.bestBerth(MOST));
        refuses(FULL, "bestBerth(-2147483648)", INDEX, x -> x.bestBerth(LEAST));
    }
}
