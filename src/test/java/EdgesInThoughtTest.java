/** Promises 24 to 29, sentence by sentence. */
final class EdgesInThoughtTest extends Edges {
    private static final Start EMPTY = MarinaBerths::new;
    private static final Start FULL = start(x -> { berths(x, true, 16); boats(x, 20); });

    public static void main(String[] args) {
        hold(EdgesInThoughtTest.class);
    }

    // ---- promise 24: owesAfter

    /** Boat 0 owes 1 and 9 more a day, boat 1 is away. */
    private static final Start PAYING = start(x -> {
        x.addBerth(300, 100, false, 3);
        x.addBoat(33, 100, 0);
        boats(x, 1);
        x.place(0, 0);
        x.charge(0, 1);
    });

    @Says(promise = 24, words = "Returns what a boat would owe after some days.")
    static void owesAfterSomeDays() {
        tells(PAYING, "owesAfter(0, 1)", 10, x -> x.owesAfter(0, 1));
        tells(PAYING, "owesAfter(0, 2), rounded down each day", 19, x -> x.owesAfter(0, 2));
        tells(PAYING, "owesAfter(1, 400) of a boat that is away", 0, x -> x.owesAfter(1, 400));
        tells(then(PAYING, x -> x.charge(1, 7)), "owesAfter(1, 400) of one that owes", 7, x -> x.owesAfter(1, 400));
        // Two days outside, then ashore, then at home again.
        Start seasons = start(x -> {
            berths(x, true, 1);
            boats(x, 1);
            x.place(0, 0);
            x.setRate(0, 1);
            x.set(1, 5);
            x.set(2, 2);
            x.set(3, 4);
        });
        tells(seasons, "owesAfter(0, 2)", 20, x -> x.owesAfter(0, 2));
        tells(seasons, "owesAfter(0, 3), the first day ashore", 70, x -> x.owesAfter(0, 3));
        tells(seasons, "owesAfter(0, 4)", 120, x -> x.owesAfter(0, 4));
        tells(seasons, "owesAfter(0, 5), the first day at home", 130, x -> x.owesAfter(0, 5));
        does(seasons, "pass(5), by which it comes so", 2, x -> x.pass(5));
        tells(then(seasons, x -> x.pass(5)), "boat(0, 7) then", 130, x -> x.boat(0, 7));
    }

    @Says(promise = 24, words = {"n: how many, 1 to 400", "Throws IllegalArgumentException if n is out of range"})
    static void owesAfterOneTo400Days() {
        tells(PAYING, "owesAfter(0, 1)", 10, x -> x.owesAfter(0, 1));
        tells(PAYING, "owesAfter(0, 400)", 3601, x -> x.owesAfter(0, 400));
        refuses(PAYING, "owesAfter(0, 0)", ARGUMENT, x -> x.owesAfter(0, 0));
        refuses(PAYING, "owesAfter(0, -1)", ARGUMENT, x -> x.owesAfter(0, -1));
        refuses(PAYING, "owesAfter(0, 401)", ARGUMENT, x -> x.owesAfter(0, 401));
        refuses(PAYING, "owesAfter(0, 2147483647)", ARGUMENT, x -> x.owesAfter(0, MOST));
        refuses(PAYING, "owesAfter(0, -2147483648)", ARGUMENT, x -> x.owesAfter(0, LEAST));
    }

    @Says(promise = 24, words = "Returns the amount; NONE if a boat (this one or another) would owe too much.")
    static void owesAfterTooMuch() {
        Start near = then(PAYING, x -> x.charge(0, MOST - 1 - 18));
        tells(near, "owesAfter(0, 2), just possible", MOST, x -> x.owesAfter(0, 2));
        tells(near, "owesAfter(0, 3), too much", NONE, x -> x.owesAfter(0, 3));
        tells(near, "owesAfter(0, 400), too much on the way", NONE, x -> x.owesAfter(0, 400));
        tells(near, "owesAfter(1, 2), the other one just possible", 0, x -> x.owesAfter(1, 2));
        tells(near, "owesAfter(1, 3), the other one too much", NONE, x -> x.owesAfter(1, 3));
        Start later = start(x -> {
            berths(x, false, 1);
            boats(x, 2);
            x.place(1, 0);
            x.setRate(0, 1);
            x.charge(1, MOST - 9);
        });
        tells(later, "owesAfter(0, 1), a higher boat too much", NONE, x -> x.owesAfter(0, 1));
        tells(later, "owesAfter(1, 1), itself too much", NONE, x -> x.owesAfter(1, 1));
        tells(then(later, x -> x.pay(1, 1)), "owesAfter(1, 1), just possible", MOST, x -> x.owesAfter(1, 1));
        refuses(near, "pass(3), which it foretells", STATE, x -> x.pass(3));
    }

    @Says(promise = 24, words = "Throws IndexOutOfBoundsException if there is no such boat")
    static void owesAfterOfNoBoat() {
        refuses(PAYING, "owesAfter(2, 1)", INDEX, x -> x.owesAfter(2, 1));
        refuses(PAYING, "owesAfter(-1, 1)", INDEX, x -> x.owesAfter(-1, 1));
        refuses(EMPTY, "owesAfter(0, 1) without boats", INDEX, x -> x.owesAfter(0, 1));
        tells(FULL, "owesAfter(19, 1)", 0, x -> x.owesAfter(19, 1));
        refuses(FULL, "owesAfter(20, 1)", INDEX, x -> x.owesAfter(20, 1));
        refuses(FULL, "owesAfter(2147483647, 1)", INDEX, x -> x.owesAfter(MOST, 1));
        refuses(FULL, "owesAfter(-2147483648, 1)", INDEX, x -> x.owesAfter(LEAST, 1));
    }

    // ---- promise 25: groundsIn

    /** Boat 0 needs a low water of -30 at least so as not to be aground. */
    private static Start floating(String table) {
        return start(x -> {
            x.addBerth(200, 100, true, 0);
            x.addBoat(100, 170, 0);
            x.addBoat(100, 170, 0);
            x.place(0, 0);
            table(x, table);
        });
    }

    @Says(promise = 25, words = "Returns after how many days a boat would be aground in the berth in which it is now,"
            + " if it stayed there.")
    static void groundsInSomeDays() {
        Start third = floating("-30,0,-31,300");
        tells(third, "on day 0", 2, x -> x.groundsIn(0));
        tells(then(third, x -> x.pass(1)), "on day 1", 1, x -> x.groundsIn(0));
        tells(then(third, x -> x.pass(3)), "on day 3, the table coming round", 3, x -> x.groundsIn(0));
        tells(then(third, x -> x.pass(4)), "on day 4", 2, x -> x.groundsIn(0));
        Start last = floating("0,0,0,0,0,0,0,0,0,0,0,0,0,-31");
        tells(last, "on the last of 14 days", 13, x -> x.groundsIn(0));
        tells(then(last, x -> x.pass(14)), "14 days later", 13, x -> x.groundsIn(0));
        tells(then(floating("-31,0,0,0,0,0,0,0,0,0,0,0,0,0"), x -> x.pass(1)), "13 days after the lowest", 13,
                x -> x.groundsIn(0));
        // Winter on the way does not count: it is as if it stayed there.
        tells(then(third, x -> x.set(2, 1)), "when winter comes before", 2, x -> x.groundsIn(0));
    }

    @Says(promise = 25, words = "Returns the number of days, 0 if it is aground today")
    static void groundsInNoDays() {
        tells(floating("-31"), "aground today", 0, x -> x.groundsIn(0));
        tells(floating("-30,-31"), "just not aground today", 1, x -> x.groundsIn(0));
        tells(then(floating("-30,-31"), x -> x.pass(1)), "aground the day after", 0, x -> x.groundsIn(0));
        tells(floating("-300,-300"), "aground every day", 0, x -> x.groundsIn(0));
    }

    @Says(promise = 25, words = "NONE if it never would be, or is in no berth.")
    static void groundsInNever() {
        tells(floating("-30"), "never", NONE, x -> x.groundsIn(0));
        tells(floating("-30,0,-30,300"), "never by a longer table", NONE, x -> x.groundsIn(0));
        tells(floating("-31"), "away", NONE, x -> x.groundsIn(1));
        tells(then(floating("-31"), x -> x.await(1)), "waiting", NONE, x -> x.groundsIn(1));
        tells(then(floating("-31"), x -> winter(x)), "ashore", NONE, x -> x.groundsIn(0));
    }

    @Says(promise = 25, words = "Throws IndexOutOfBoundsException if there is no such boat")
    static void groundsInOfNoBoat() {
        refuses(floating("0"), "groundsIn(2)", INDEX, x -> x.groundsIn(2));
        refuses(floating("0"), "groundsIn(-1)", INDEX, x -> x.groundsIn(-1));
        refuses(EMPTY, "groundsIn(0) without boats", INDEX, x -> x.groundsIn(0));
        tells(FULL, "groundsIn(19)", NONE, x -> x.groundsIn(19));
        refuses(FULL, "groundsIn(20)", INDEX, x -> x.groundsIn(20));
        refuses(FULL, "groundsIn(2147483647)", INDEX, x -> x.groundsIn(MOST));
        refuses(FULL, "groundsIn(-2147483648)", INDEX, x -> x.groundsIn(LEAST));
    }

    // ---- promise 26: winterBerth

    /** Boat 0 in the exposed berth 1, boat 1 in the exposed berth 0, boat 2 in the sheltered berth 2; 3 is free. */
    private static final Start SUMMER = start(x -> {
        berths(x, true, 2);
        berths(x, false, 2);
        boats(x, 5);
        x.place(0, 1);
        x.place(1, 0);
        x.place(2, 2);
        x.await(3);
    });

    @Says(promise = 26, words = "Returns where a boat would be if winter began now.")
    static void winterBerthOfABoat() {
        tells(SUMMER, "the lowest exposed boat", 3, x -> x.winterBerth(0));
        tells(SUMMER, "a sheltered boat", 2, x -> x.winterBerth(2));
        tells(then(SUMMER, x -> x.leave(2)), "when berth 2 is free", 2, x -> x.winterBerth(0));
        tells(then(SUMMER, x -> x.leave(2)), "the next one then", 3, x -> x.winterBerth(1));
        tells(then(SUMMER, x -> x.leave(0)), "when the lower boat has left", 3, x -> x.winterBerth(1));
        // It is as winter does it then.
        tells(then(SUMMER, x -> winter(x)), "the berth when winter has begun", 3, x -> x.boat(0, 4));
        // What was thought before does not count any more.
        Start thought = then(SUMMER, x -> { x.winterBerth(0); x.wouldGoAshore(); x.leave(0); });
        tells(thought, "the next one when the lowest has left after a thought", 3, x -> x.winterBerth(1));
        // Now, and not on the first day of winter: the clearance of now counts.
        tells(then(SUMMER, x -> x.set(0, 100)), "with a clearance of 100", 3, x -> x.winterBerth(0));
        tells(then(SUMMER, x -> table(x, "-200")), "with low water", NONE, x -> x.winterBerth(0));
    }

    @Says(promise = 26, words = "Returns the berth; NONE if it would be in none (also one that is in none now).")
    static void winterBerthOfABoatInNone() {
        tells(SUMMER, "a boat that would go ashore", NONE, x -> x.winterBerth(1));
        tells(SUMMER, "a boat that waits", NONE, x -> x.winterBerth(3));
        tells(SUMMER, "a boat that is away", NONE, x -> x.winterBerth(4));
        Start full = then(FULL, x -> {
            for (int k = 0; k < 16; k++) {
                x.place(k, k);
            }
        });
        tells(full, "the last of 16 boats without any sheltered berth", NONE, x -> x.winterBerth(15));
        Start half = start(x -> {
            berths(x, false, 8);
            berths(x, true, 8);
            boats(x, 16);
            for (int k = 8; k < 16; k++) {
                x.place(k, k);
            }
        });
        tells(half, "the first of 8 boats for 8 berths", 0, x -> x.winterBerth(8));
        tells(half, "the last of 8 boats for 8 berths", 7, x -> x.winterBerth(15));
        tells(then(half, x -> x.place(0, 7)), "the last of 8 boats for 7 berths", NONE, x -> x.winterBerth(15));
    }

    @Says(promise = 26, words = "Throws IndexOutOfBoundsException if there is no such boat")
    static void winterBerthOfNoBoat() {
        refuses(SUMMER, "winterBerth(5)", INDEX, x -> x.winterBerth(5));
        refuses(SUMMER, "winterBerth(-1)", INDEX, x -> x.winterBerth(-1));
        refuses(EMPTY, "winterBerth(0) without boats", INDEX, x -> x.winterBerth(0));
        tells(FULL, "winterBerth(19)", NONE, x -> x.winterBerth(19));
        refuses(FULL, "winterBerth(20)", INDEX, x -> x.winterBerth(20));
        refuses(FULL, "winterBerth(2147483647)", INDEX, x -> x.winterBerth(MOST));
        refuses(then(SUMMER, x -> winter(x)), "winterBerth(5) in winter", INDEX, x -> x.winterBerth(5));
    }

    @Says(promise = 26, words = "Throws IllegalStateException if it is winter")
    static void winterBerthInWinter() {
        tells(then(SUMMER, x -> x.pass(269)), "on the day before winter", 3, x -> x.winterBerth(0));
        refuses(then(SUMMER, x -> x.pass(270)), "on the first day of winter", STATE, x -> x.winterBerth(0));
        refuses(then(SUMMER, x -> { x.pass(400); x.pass(49); }), "on the last day of winter", STATE,
                x -> x.winterBerth(0));
        tells(then(SUMMER, x -> { x.pass(400); x.pass(50); }), "on the first day of spring", 3, x -> x.winterBerth(0));
        refuses(then(SUMMER, x -> winter(x)), "of a boat in no berth", STATE, x -> x.winterBerth(4));
    }

    // ---- promise 27: wouldGoAshore

    @Says(promise = 27, words = {"Returns how many boats would go ashore if winter began now.", "Returns how many."})
    static void wouldGoAshoreHowMany() {
        tells(EMPTY, "without boats", 0, x -> x.wouldGoAshore());
        tells(FULL, "no boat in a berth", 0, x -> x.wouldGoAshore());
        tells(SUMMER, "one of two", 1, x -> x.wouldGoAshore());
        tells(then(SUMMER, x -> x.leave(2)), "with room for both", 0, x -> x.wouldGoAshore());
        Start twice = then(SUMMER, x -> { x.wouldGoAshore(); x.leave(0); x.leave(1); x.place(4, 0); });
        tells(twice, "another boat after a thought", 0, x -> x.wouldGoAshore());
        tells(then(SUMMER, x -> x.place(4, 3)), "with room for none", 2, x -> x.wouldGoAshore());
        tells(then(SUMMER, x -> table(x, "-171")), "when they fit nowhere", 2, x -> x.wouldGoAshore());
        tells(then(SUMMER, x -> table(x, "-170")), "when they just fit", 1, x -> x.wouldGoAshore());
        Start full = then(FULL, x -> {
            for (int k = 0; k < 16; k++) {
                x.place(k, k);
            }
        });
        tells(full, "16 boats, all exposed", 16, x -> x.wouldGoAshore());
        tells(then(full, x -> winter(x)), "boats ashore when winter has begun", 16, x -> x.info(10));
        // A lower boat must give way, so that both stay.
        Start tight = start(x -> {
            berths(x, true, 2);
            x.addBerth(300, 100, false, 0);
            x.addBerth(300, 50, false, 0);
            x.addBoat(50, 100, 0);
            x.addBoat(100, 100, 0);
            x.place(0, 0);
            x.place(1, 1);
        });
        tells(tight, "as few as possible", 0, x -> x.wouldGoAshore());
    }

    @Says(promise = 27, words = "Throws IllegalStateException if it is winter")
    static void wouldGoAshoreInWinter() {
        tells(then(SUMMER, x -> x.pass(269)), "on the day before winter", 1, x -> x.wouldGoAshore());
        refuses(then(SUMMER, x -> x.pass(270)), "on the first day of winter", STATE, x -> x.wouldGoAshore());
        refuses(then(EMPTY, x -> winter(x)), "without boats", STATE, x -> x.wouldGoAshore());
        tells(then(SUMMER, x -> { winter(x); spring(x); }), "on the first day of spring", 1, x -> x.wouldGoAshore());
    }

    // ---- promise 28: greatestClearance

    @Says(promise = 28, words = "Returns the greatest clearance with which all boats that are in berths would"
            + " fit them.")
    static void greatestClearanceForAll() {
        Start two = start(x -> {
            x.addBerth(200, 100, true, 0);
            x.addBerth(200, 100, false, 0);
            x.addBoat(100, 150, 0);
            x.addBoat(100, 120, 0);
            x.addBoat(100, 500, 0);
            x.place(1, 0);
        });
        tells(two, "200 - 120", 80, x -> x.greatestClearance());
        Start both = then(two, x -> x.place(0, 1));
        tells(both, "200 - 150", 50, x -> x.greatestClearance());
        tells(then(both, x -> x.set(0, 0)), "whatever the clearance is", 50, x -> x.greatestClearance());
        tells(then(both, x -> x.set(0, 50)), "boat(0, 9) with just that clearance", 1, x -> x.boat(0, 9));
        tells(then(both, x -> x.set(0, 51)), "boat(0, 9) with 1 more", 0, x -> x.boat(0, 9));
        tells(then(both, x -> table(x, "30,-10")), "by the lowest water", 40, x -> x.greatestClearance());
        tells(then(both, x -> x.await(2)), "a boat that waits does not count", 50, x -> x.greatestClearance());
        tells(then(both, x -> x.leave(0)), "when it has left", 80, x -> x.greatestClearance());
        tells(then(both, x -> { x.set(0, 100); winter(x); }), "in winter, one being ashore", 50,
                x -> x.greatestClearance());
    }

    @Says(promise = 28, words = "Returns the clearance, 0 to 100 (100 if no boat is in a berth); NONE if there"
            + " is none.")
    static void greatestClearanceIs0To100() {
        tells(EMPTY, "without boats", 100, x -> x.greatestClearance());
        tells(FULL, "no boat in a berth", 100, x -> x.greatestClearance());
        Start one = start(x -> { x.addBerth(300, 100, true, 0); x.addBoat(100, 200, 0); x.place(0, 0); });
        tells(one, "just 100", 100, x -> x.greatestClearance());
        tells(then(one, x -> table(x, "1")), "101 would do as well", 100, x -> x.greatestClearance());
        tells(then(one, x -> table(x, "-1")), "99", 99, x -> x.greatestClearance());
        tells(then(one, x -> table(x, "-99")), "1", 1, x -> x.greatestClearance());
        tells(then(one, x -> table(x, "-100")), "just 0", 0, x -> x.greatestClearance());
        tells(then(one, x -> table(x, "-101")), "there is none", NONE, x -> x.greatestClearance());
        tells(then(one, x -> table(x, "-300")), "far from any", NONE, x -> x.greatestClearance());
        tells(then(one, x -> { table(x, "-101"); x.leave(0); }), "when it has left", 100, x -> x.greatestClearance());
    }

    // ---- promise 29: missingDepth

    private static final Start GUESTS = start(x -> {
        x.addBerth(200, 100, true, 0);
        x.addBoat(100, 170, 0);
        x.addBoat(100, 171, 0);
        x.addBoat(101, 20, 0);
        x.addBoat(101, 500, 0);
        x.addBoat(30, 500, 0);
    });

    @Says(promise = 29, words = "Returns the smallest number by which the depth of a berth would have to be greater, so"
            + " that a boat fits it.")
    static void missingDepthOfABerth() {
        tells(GUESTS, "1 is missing", 1, x -> x.missingDepth(1, 0));
        tells(GUESTS, "500 + 30 - 200 are missing", 330, x -> x.missingDepth(4, 0));
        tells(then(GUESTS, x -> x.set(0, 100)), "with more clearance", 71, x -> x.missingDepth(1, 0));
        tells(then(GUESTS, x -> table(x, "300,-300")), "with low water", 301, x -> x.missingDepth(1, 0));
        Start most = start(x -> { x.addBerth(50, 100, true, 0); x.addBoat(30, 500, 0); x.set(0, 100); });
        tells(then(most, x -> table(x, "-300")), "the greatest that there is", 850, x -> x.missingDepth(0, 0));
        // So much deeper it fits, 1 less does not do.
        tells(start(x -> { x.addBerth(530, 100, true, 0); x.addBoat(30, 500, 0); }), "530 deep", 0,
                x -> x.missingDepth(0, 0));
        tells(start(x -> { x.addBerth(529, 100, true, 0); x.addBoat(30, 500, 0); }), "529 deep", 1,
                x -> x.missingDepth(0, 0));
    }

    @Says(promise = 29, words = "Returns the number, 0 if it fits; NONE if its length does not.")
    static void missingDepthOfNone() {
        tells(GUESTS, "it just fits", 0, x -> x.missingDepth(0, 0));
        tells(then(GUESTS, x -> table(x, "300")), "it more than fits", 0, x -> x.missingDepth(0, 0));
        tells(GUESTS, "too long by 1, deep enough", NONE, x -> x.missingDepth(2, 0));
        tells(GUESTS, "too long by 1, too deep as well", NONE, x -> x.missingDepth(3, 0));
        Start taken = then(GUESTS, x -> x.place(0, 0));
        tells(taken, "a berth that is taken", 1, x -> x.missingDepth(1, 0));
        tells(then(GUESTS, x -> winter(x)), "an exposed berth in winter", 0, x -> x.missingDepth(0, 0));
    }

    @Says(promise = 29, words = "Throws IndexOutOfBoundsException if there is no such boat or berth")
    static void missingDepthOfNoBoatOrBerth() {
        refuses(GUESTS, "missingDepth(5, 0)", INDEX, x -> x.missingDepth(5, 0));
        refuses(GUESTS, "missingDepth(-1, 0)", INDEX, x -> x.missingDepth(-1, 0));
        refuses(GUESTS, "missingDepth(0, 1)", INDEX, x -> x.missingDepth(0, 1));
        refuses(GUESTS, "missingDepth(0, -1)", INDEX, x -> x.missingDepth(0, -1));
        refuses(EMPTY, "missingDepth(0, 0) of a new object", INDEX, x -> x.missingDepth(0, 0));
        tells(FULL, "missingDepth(19, 15)", 0, x -> x.missingDepth(19, 15));
        refuses(FULL, "missingDepth(20, 15)", INDEX, x -> x.missingDepth(20, 15));
        refuses(FULL, "missingDepth(19, 16)", INDEX, x -> x.missingDepth(19, 16));
        refuses(FULL, "missingDepth(2147483647, 0)", INDEX, x -> x.missingDepth(MOST, 0));
        refuses(FULL, "missingDepth(0, -2147483648)", INDEX, x -> x.missingDepth(0, LEAST));
    }
}
