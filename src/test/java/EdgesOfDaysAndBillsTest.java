/** Promises 19 to 23, and the terms of days, winter, spring and bills, sentence by sentence. */
final class EdgesOfDaysAndBillsTest extends Edges {
    public static void main(String[] args) {
        hold(EdgesOfDaysAndBillsTest.class);
    }

    // ---- the terms: days

    @Says(promise = 0, words = "The day counter d is initially 0.")
    static void dayIsInitially0() {
        tells(MarinaBerths::new, "info(4)", 0, x -> x.info(4));
        tells(start(x -> x.pass(1)), "info(4) after a day", 1, x -> x.info(4));
    }

    @Says(promise = 0, words = "A year has 360 days; the day of the year is d modulo 360.")
    static void yearHas360Days() {
        Start lastDay = start(x -> x.set(2, 359));
        does(lastDay, "pass(358), before the last day of the year", 0, x -> x.pass(358));
        does(lastDay, "pass(359), up to the last day of the year", 1, x -> x.pass(359));
        Start firstDay = start(x -> x.set(2, 0));
        does(firstDay, "pass(359), before the first day of the next year", 0, x -> x.pass(359));
        does(firstDay, "pass(360), up to the first day of the next year", 1, x -> x.pass(360));
        tells(then(firstDay, x -> x.pass(360)), "info(4), which does not come round", 360, x -> x.info(4));
        Start secondYear = start(x -> { x.set(2, 5); x.set(3, 6); x.pass(7); });
        does(secondYear, "pass(357), before the first day of winter of the next year", 0, x -> x.pass(357));
        does(secondYear, "pass(358), up to it", 1, x -> x.pass(358));
    }

    @Says(promise = 0, words = "There are a first day of winter and a first day of spring (two different days of the"
            + " year, initially 270 and 90).")
    static void firstDaysOfWinterAndSpring() {
        tells(MarinaBerths::new, "the first day of winter", 270, x -> x.info(2));
        tells(MarinaBerths::new, "the first day of spring", 90, x -> x.info(3));
        does(MarinaBerths::new, "winter from day 0", 270, x -> x.set(2, 0));
        does(MarinaBerths::new, "winter from day 359", 270, x -> x.set(2, 359));
        refuses(MarinaBerths::new, "winter from day -1", ARGUMENT, x -> x.set(2, -1));
        refuses(MarinaBerths::new, "winter from day 360", ARGUMENT, x -> x.set(2, 360));
        does(MarinaBerths::new, "spring from day 0", 90, x -> x.set(3, 0));
        does(MarinaBerths::new, "spring from day 359", 90, x -> x.set(3, 359));
        refuses(MarinaBerths::new, "spring from day -1", ARGUMENT, x -> x.set(3, -1));
        refuses(MarinaBerths::new, "spring from day 360", ARGUMENT, x -> x.set(3, 360));
        does(MarinaBerths::new, "winter just before spring", 270, x -> x.set(2, 89));
        refuses(MarinaBerths::new, "winter on the first day of spring", ARGUMENT, x -> x.set(2, 90));
        does(MarinaBerths::new, "winter just behind it", 270, x -> x.set(2, 91));
        does(MarinaBerths::new, "spring just before winter", 90, x -> x.set(3, 269));
        refuses(MarinaBerths::new, "spring on the first day of winter", ARGUMENT, x -> x.set(3, 270));
        does(MarinaBerths::new, "spring just behind it", 90, x -> x.set(3, 271));
    }

    @Says(promise = 0, words = "It is winter or not (initially not).")
    static void initiallyItIsNotWinter() {
        tells(MarinaBerths::new, "info(5)", 0, x -> x.info(5));
        tells(start(x -> winter(x)), "info(5) in winter", 1, x -> x.info(5));
        tells(start(x -> { winter(x); spring(x); }), "info(5) in spring", 0, x -> x.info(5));
    }

    /** A boat of this length in a sheltered berth of this rate. */
    private static Start payer(int length, int rate) {
        return start(x -> {
            x.addBerth(300, 400, false, rate);
            x.addBoat(length, 100, 0);
            x.place(0, 0);
        });
    }

    @Says(promise = 0, words = {"When a day passes, this is done, in this order:",
            "Each boat in a berth owes (its length * the rate of the berth) / 10 more, rounded down"})
    static void feeInABerth() {
        dueFee(payer(37, 0), 0);
        dueFee(payer(30, 1), 3);
        dueFee(payer(39, 1), 3);
        dueFee(payer(40, 1), 4);
        dueFee(payer(33, 3), 9);
        // 399 * 9999999 and more is no int any more.
        dueFee(payer(399, 9999999), 398999960);
        dueFee(payer(400, 9999999), 399999960);
        dueFee(start(x -> { berths(x, true, 1); x.setRate(0, 50); boats(x, 1); }), 0);
        dueFee(start(x -> { berths(x, true, 1); x.setRate(0, 50); boats(x, 1); x.await(0); }), 0);
    }

    private static void dueFee(Start start, int fee) {
        tells(then(start, x -> x.pass(1)), "boat(0, 7) after a day", fee, x -> x.boat(0, 7));
        tells(then(start, x -> x.pass(5)), "boat(0, 7) after 5 days", 5 * fee, x -> x.boat(0, 7));
    }

    @Says(promise = 0, words = "each boat ashore (its length * the rate ashore) / 10, rounded down")
    static void feeAshore() {
        dueFee(ashore(37, 0), 0);
        dueFee(ashore(39, 1), 3);
        dueFee(ashore(40, 1), 4);
        dueFee(ashore(400, 9999999), 399999960);
    }

    private static Start ashore(int length, int rate) {
        return start(x -> {
            x.addBerth(300, 400, true, 0);
            x.addBoat(length, 100, 0);
            x.place(0, 0);
            winter(x);
            x.set(1, rate);
        });
    }

    @Says(promise = 0, words = "(the rate ashore is 0 to 9999999, initially 0).")
    static void rateAshoreIs0To9999999() {
        tells(MarinaBerths::new, "the rate ashore", 0, x -> x.info(1));
        does(MarinaBerths::new, "rate ashore 9999999", 0, x -> x.set(1, 9999999));
        does(start(x -> x.set(1, 9999999)), "rate ashore 0", 9999999, x -> x.set(1, 0));
        refuses(MarinaBerths::new, "rate ashore -1", ARGUMENT, x -> x.set(1, -1));
        refuses(MarinaBerths::new, "rate ashore 10000000", ARGUMENT, x -> x.set(1, 10000000));
    }

    @Says(promise = 0, words = "d increases by 1; each waiting boat has waited one day more.")
    static void dayIncreasesAndBoatsWait() {
        Start two = start(x -> { boats(x, 2); x.await(1); x.pass(3); });
        tells(two, "info(4)", 3, x -> x.info(4));
        tells(two, "points of the boat that waits", 3, x -> x.boat(1, 5));
        tells(two, "points of the boat that does not", NONE, x -> x.boat(0, 5));
        tells(then(two, x -> { x.await(0); x.pass(1); }), "points a day after await()", 1, x -> x.boat(0, 5));
    }

    @Says(promise = 0, words = "If the day of the year is the first day of winter then, and it is not winter, winter"
            + " begins")
    static void winterBegins() {
        does(MarinaBerths::new, "pass(269), the day before", 0, x -> x.pass(269));
        does(MarinaBerths::new, "pass(270)", 1, x -> x.pass(270));
        // The day counts as it is after it has increased: today does not begin winter any more.
        Start today = start(x -> { x.set(2, 5); x.pass(4); x.set(2, 4); });
        does(today, "pass(359), the day before a year later", 0, x -> x.pass(359));
        does(today, "pass(360)", 1, x -> x.pass(360));
        Start already = start(x -> { winter(x); x.set(2, 7); });
        does(already, "the first day of winter in winter", 0, x -> x.pass(6));
        tells(then(already, x -> x.pass(6)), "info(5)", 1, x -> x.info(5));
        // The fees of the day are those of the berths in which the boats were before winter.
        Start fees = start(x -> {
            x.addBerth(300, 100, true, 1);
            x.addBerth(300, 100, false, 100);
            boats(x, 1);
            x.place(0, 0);
        });
        tells(then(fees, x -> winter(x)), "what is owed on the first day", 10, x -> x.boat(0, 7));
        tells(then(fees, x -> { winter(x); x.pass(1); }), "a day later", 1010, x -> x.boat(0, 7));
    }

    @Says(promise = 0, words = "if it is the first day of spring, and it is winter, spring begins.")
    static void springBegins() {
        Start winter = start(x -> { winter(x); x.set(3, 5); });
        does(winter, "pass(3), the day before", 0, x -> x.pass(3));
        does(winter, "pass(4)", 1, x -> x.pass(4));
        Start summer = start(x -> x.set(3, 5));
        does(summer, "the first day of spring, not in winter", 0, x -> x.pass(5));
        Start today = start(x -> { winter(x); x.set(2, 3); x.set(3, 1); });
        does(today, "today does not begin spring any more", 0, x -> x.pass(359));
        does(today, "a year later", 1, x -> x.pass(360));
        Start nextDay = start(x -> { x.set(2, 5); x.set(3, 6); });
        does(nextDay, "winter of one day", 2, x -> x.pass(6));
        // On the day that spring begins the night was still spent ashore.
        Start fees = start(x -> { berths(x, true, 1); x.setRate(0, 1); boats(x, 1); x.place(0, 0); x.set(1, 100); });
        Start spring = then(fees, x -> { winter(x); spring(x); });
        tells(spring, "what is owed on the first day", 1010, x -> x.boat(0, 7));
        tells(then(spring, x -> x.pass(1)), "a day later", 1020, x -> x.boat(0, 7));
    }

    // ---- the terms: when winter begins

    @Says(promise = 0, words = "When winter begins, all boats in exposed berths leave them; each of them remembers its"
            + " berth as its home.")
    static void exposedBoatsLeaveInWinter() {
        Start start = start(x -> {
            berths(x, true, 2);
            berths(x, false, 2);
            boats(x, 4);
            x.place(0, 1);
            x.place(1, 2);
            x.place(2, 0);
            x.await(3);
            winter(x);
        });
        tells(start, "an exposed berth", NONE, x -> x.berth(0, 4));
        tells(start, "another one", NONE, x -> x.berth(1, 4));
        tells(start, "home of a boat that found a berth", 1, x -> x.boat(0, 6));
        tells(start, "home of a boat that went ashore", 0, x -> x.boat(2, 6));
        tells(start, "home of a boat in a sheltered berth", NONE, x -> x.boat(1, 6));
        tells(start, "berth of a boat in a sheltered berth", 2, x -> x.boat(1, 4));
        tells(start, "home of a boat that waits", NONE, x -> x.boat(3, 6));
        tells(start, "state of a boat that waits", 2, x -> x.boat(3, 3));
        Start allExposed = start(x -> { berths(x, true, 16); boats(x, 20); });
        Start allOut = then(allExposed, x -> {
            for (int k = 0; k < 16; k++) {
                x.place(k + 4, k);
            }
            winter(x);
        });
        tells(allOut, "free berths when 16 boats left them", 16, x -> x.info(8));
        tells(allOut, "boats ashore", 16, x -> x.info(10));
        tells(allOut, "home of the last one", 15, x -> x.boat(19, 6));
        tells(start(x -> winter(x)), "info(5) without berths and boats", 1, x -> x.info(5));
    }

    @Says(promise = 0, words = "Then as many of them as possible are put into sheltered berths that are free and that"
            + " they fit")
    static void asManyAsPossibleAreSheltered() {
        // Boat 1 would take away the only berth that boat 2 fits, berth 2 being the lowest for both.
        Start tight = start(x -> {
            berths(x, true, 2);
            x.addBerth(300, 100, false, 0);
            x.addBerth(300, 50, false, 0);
            x.addBoat(100, 100, 0);
            x.addBoat(50, 100, 0);
            x.addBoat(51, 100, 0);
            x.place(1, 0);
            x.place(2, 1);
            winter(x);
        });
        tells(tight, "boats ashore", 0, x -> x.info(10));
        tells(tight, "the short boat", 3, x -> x.boat(1, 4));
        tells(tight, "the long boat", 2, x -> x.boat(2, 4));
        Start taken = start(x -> {
            berths(x, true, 1);
            berths(x, false, 1);
            boats(x, 2);
            x.place(0, 0);
            x.place(1, 1);
            winter(x);
        });
        tells(taken, "when the only sheltered berth is taken", 3, x -> x.boat(0, 3));
        // 100 + 30 just fit 130; the boat that needs 131 fits no more.
        Start depth = start(x -> {
            x.addBerth(300, 100, true, 0);
            x.addBerth(129, 100, false, 0);
            x.addBerth(130, 99, false, 0);
            x.addBoat(100, 100, 0);
            x.place(0, 0);
        });
        tells(then(depth, x -> winter(x)), "berths too shallow or too short by 1", 3, x -> x.boat(0, 3));
        Start deeper = then(depth, x -> { x.addBerth(130, 100, false, 0); winter(x); });
        tells(deeper, "a berth that just fits", 3, x -> x.boat(0, 4));
        Start less = then(depth, x -> { x.set(0, 29); winter(x); });
        tells(less, "1 less clearance", 1, x -> x.boat(0, 4));
    }

    @Says(promise = 0, words = "at most one boat in each")
    static void atMostOneBoatInEachShelteredBerth() {
        Start two = start(x -> {
            berths(x, true, 2);
            berths(x, false, 1);
            boats(x, 2);
            x.place(0, 0);
            x.place(1, 1);
            winter(x);
        });
        tells(two, "the lower boat", 2, x -> x.boat(0, 4));
        tells(two, "the other one is ashore", 3, x -> x.boat(1, 3));
        tells(two, "free berths", 2, x -> x.info(8));
        // In the next winter, too, when other boats are outside.
        Start next = then(two, x -> { spring(x); x.leave(0); winter(x); });
        tells(next, "the boat that was ashore the winter before", 2, x -> x.boat(1, 4));
        tells(next, "boats ashore", 0, x -> x.info(10));
        Start full = start(x -> {
            berths(x, true, 8);
            berths(x, false, 8);
            boats(x, 16);
            for (int k = 0; k < 8; k++) {
                x.place(15 - k, k);
            }
            winter(x);
        });
        for (int k = 0; k < 8; k++) {
            int boat = 8 + k;
            tells(full, "berth of boat " + boat, boat, x -> x.boat(boat, 4));
        }
    }

    @Says(promise = 0, words = {"of all ways to do this for the greatest number of boats, the one is taken in which the"
            + " lowest boat has the lowest berth (any berth being lower than none), then the second lowest boat,"
            + " and so on."})
    static void lowestBoatHasTheLowestBerth() {
        Start three = start(x -> {
            berths(x, true, 3);
            x.addBerth(300, 80, false, 0);
            x.addBerth(300, 90, false, 0);
            x.addBerth(300, 100, false, 0);
            x.addBoat(90, 100, 0);
            x.addBoat(80, 100, 0);
            x.addBoat(70, 100, 0);
        });
        Start all = then(three, x -> { x.place(0, 2); x.place(1, 0); x.place(2, 1); winter(x); });
        // All three can stay: the lowest boat in 4, its lowest, the second in 3, the third in what is left.
        dueBerths(all, 4, 3, 5);
        Start two = then(three, x -> { x.place(1, 0); x.place(2, 1); winter(x); });
        dueBerths(two, NONE, 3, 4);
        // Only one of the two can stay: any berth is lower than none, so it is the lower boat.
        Start one = start(x -> {
            berths(x, true, 2);
            berths(x, false, 1);
            boats(x, 3);
            x.place(2, 0);
            x.place(1, 1);
            winter(x);
        });
        dueBerths(one, NONE, 2, NONE);
        // The greatest number comes first: boat 0 cannot have 4, the only berth for boat 2, if 5 does for it as well.
        Start most = start(x -> {
            berths(x, true, 4);
            x.addBerth(300, 100, false, 0);
            x.addBerth(250, 80, false, 0);
            x.addBoat(80, 100, 0);
            x.addBoat(80, 230, 0);
            x.addBoat(100, 100, 0);
            x.place(0, 0);
            x.place(2, 2);
            winter(x);
        });
        dueBerths(most, 5, NONE, 4);
        // No way shelters more than two of these; then boat 0 has its lowest berth, boat 1 the next, boat 2 none.
        Start last = start(x -> {
            berths(x, true, 3);
            berths(x, false, 2);
            boats(x, 3);
            x.place(0, 2);
            x.place(1, 1);
            x.place(2, 0);
            winter(x);
        });
        dueBerths(last, 3, 4, NONE);
    }

    private static void dueBerths(Start start, int... berths) {
        for (int k = 0; k < berths.length; k++) {
            int boat = k;
            tells(start, "berth of boat " + boat, berths[k], x -> x.boat(boat, 4));
        }
    }

    @Says(promise = 0, words = "The others go ashore.")
    static void othersGoAshore() {
        Start none = start(x -> { berths(x, true, 1); boats(x, 2); x.place(1, 0); winter(x); });
        tells(none, "state of a boat without a sheltered berth", 3, x -> x.boat(1, 3));
        tells(none, "boats ashore", 1, x -> x.info(10));
        tells(none, "state of a boat that was away", 0, x -> x.boat(0, 3));
        Start one = start(x -> { berths(x, true, 1); berths(x, false, 1); boats(x, 1); x.place(0, 0); winter(x); });
        tells(one, "boats ashore when all found a berth", 0, x -> x.info(10));
    }

    // ---- the terms: when spring begins

    /** Winter: the boats 0 to 2 have the homes 0 to 2, boat 0 in berth 3, the others ashore; boat 3 is away. */
    private static final Start WINTER = start(x -> {
        x.addBerth(200, 100, true, 0);
        x.addBerth(200, 100, true, 0);
        x.addBerth(201, 100, true, 0);
        x.addBerth(300, 100, false, 0);
        for (int k = 0; k < 4; k++) {
            x.addBoat(100, 170, 0);
        }
        x.place(0, 0);
        x.place(1, 1);
        x.place(2, 2);
        winter(x);
    });

    @Says(promise = 0, words = "When spring begins, the boats that have a home are looked at in ascending order")
    static void springLooksInAscendingOrder() {
        Start low = then(WINTER, x -> { x.set(0, 100); spring(x); });
        tells(low, "the first that began to wait", 1, x -> x.waiting(0));
        tells(low, "the second one", 2, x -> x.waiting(1));
        tells(low, "boats that wait", 2, x -> x.info(9));
        tells(then(low, x -> x.await(3)), "one that begins later on this day", 3, x -> x.waiting(2));
        tells(then(WINTER, x -> { x.await(3); x.set(0, 100); spring(x); }), "one that waits longer", 3,
                x -> x.waiting(0));
    }

    @Says(promise = 0, words = "if its home is free and the boat fits it, it goes there (also from a berth)")
    static void springBringsHome() {
        Start home = then(WINTER, x -> spring(x));
        dueBerths(home, 0, 1, 2, NONE);
        tells(home, "the sheltered berth is free again", NONE, x -> x.berth(3, 4));
        tells(home, "state of a boat from the shore", 1, x -> x.boat(1, 3));
        // All 16 berths and all 20 boats.
        Start all = start(x -> {
            berths(x, true, 16);
            boats(x, 20);
            for (int k = 0; k < 16; k++) {
                x.place(k + 4, 15 - k);
            }
            winter(x);
        });
        tells(all, "boats ashore", 16, x -> x.info(10));
        tells(then(all, x -> spring(x)), "free berths in spring", 0, x -> x.info(8));
        tells(then(all, x -> spring(x)), "berth of the last boat", 0, x -> x.boat(19, 4));
        // With a clearance of 31 only berth 2 fits, which is 1 deeper.
        Start just = then(WINTER, x -> { x.set(0, 31); spring(x); });
        dueBerths(just, 3, NONE, 2, NONE);
        Start low = then(WINTER, x -> { table(x, "5,-1"); spring(x); });
        dueBerths(low, 3, NONE, 2, NONE);
    }

    @Says(promise = 0, words = "otherwise, if it is ashore, it begins to wait")
    static void springLetsBoatsWait() {
        Start low = then(WINTER, x -> { x.set(0, 31); x.pass(5); spring(x); });
        tells(low, "state of a boat that was ashore", 2, x -> x.boat(1, 3));
        tells(low, "its points, for it begins now", 0, x -> x.boat(1, 5));
        tells(low, "boats ashore", 0, x -> x.info(10));
        tells(then(low, x -> x.pass(1)), "its points a day later", 1, x -> x.boat(1, 5));
        tells(then(WINTER, x -> spring(x)), "boats that wait when all came home", 0, x -> x.info(9));
    }

    @Says(promise = 0, words = "(and if it is in a berth, it stays there).")
    static void springLetsBoatsStay() {
        Start low = then(WINTER, x -> { x.set(0, 100); spring(x); });
        tells(low, "berth of a boat that found one", 3, x -> x.boat(0, 4));
        tells(low, "its state", 1, x -> x.boat(0, 3));
        // It stays even where it fits no more.
        Start lower = then(WINTER, x -> { table(x, "-300"); spring(x); });
        tells(lower, "berth of a boat that is aground", 3, x -> x.boat(0, 4));
    }

    @Says(promise = 0, words = "After that no boat has a home.")
    static void noHomesAfterSpring() {
        Start home = then(WINTER, x -> spring(x));
        Start low = then(WINTER, x -> { x.set(0, 100); spring(x); });
        for (int k = 0; k < 4; k++) {
            int boat = k;
            tells(home, "home of boat " + boat, NONE, x -> x.boat(boat, 6));
            tells(low, "home of boat " + boat + " that did not come home", NONE, x -> x.boat(boat, 6));
        }
        // So the next spring takes nobody back to the berth of the winter before.
        Start again = then(low, x -> { winter(x); x.set(0, 30); spring(x); });
        dueBerths(again, 3, NONE, NONE, NONE);
    }

    @Says(promise = 0, words = "(A boat that leaves its berth or the shore in winter by a call, also by change(), has"
            + " no home any more.)")
    static void homeIsLostByACall() {
        Start second = then(WINTER, x -> { x.addBerth(300, 100, false, 0); x.addBerth(300, 100, false, 0); });
        dueNoHome(then(second, x -> x.place(0, 4)), "place() from a berth", 0, 4);
        dueNoHome(then(second, x -> x.place(1, 4)), "place() from the shore", 1, 4);
        dueNoHome(then(second, x -> x.leave(0)), "leave() from a berth", 0, NONE);
        dueNoHome(then(second, x -> x.leave(1)), "leave() from the shore", 1, NONE);
        dueNoHome(then(second, x -> { x.leave(1); x.await(1); }), "leave() and await()", 1, NONE);
        dueNoHome(then(second, x -> { x.leave(1); x.await(1); x.offer(4); }), "leave(), await() and offer()", 1, 4);
        Start other = then(second, x -> x.place(3, 4));
        dueNoHome(then(other, x -> x.change(0, 3)), "change(), being the first", 0, 4);
        dueNoHome(then(other, x -> x.change(3, 0)), "change(), being the other one", 0, 4);
        // Boats that did not leave keep their homes.
        tells(then(second, x -> x.place(0, 4)), "home of boat 1, which did nothing", 1, x -> x.boat(1, 6));
        tells(then(second, x -> { x.place(0, 4); spring(x); }), "boat 1 in spring", 1, x -> x.boat(1, 4));
        tells(then(second, x -> { x.charge(0, 5); x.pay(0, 5); }), "home after other calls", 0, x -> x.boat(0, 6));
    }

    private static void dueNoHome(Start start, String call, int boat, int berth) {
        tells(start, "home after " + call, NONE, x -> x.boat(boat, 6));
        tells(then(start, x -> spring(x)), "berth in spring after " + call, berth, x -> x.boat(boat, 4));
    }

    // ---- the terms: bills

    @Says(promise = 0, words = "A boat owes an amount, from 0 to 2147483647 (initially 0).")
    static void boatOwes0To2147483647() {
        Start one = start(x -> boats(x, 1));
        Start most = then(one, x -> x.charge(0, MOST));
        tells(one, "boat(0, 7) initially", 0, x -> x.boat(0, 7));
        does(one, "charge(0, 2147483647)", MOST, x -> x.charge(0, MOST));
        refuses(most, "charge(0, 1) more", STATE, x -> x.charge(0, 1));
        does(most, "pay(0, 2147483647)", 0, x -> x.pay(0, MOST));
        refuses(then(most, x -> x.pay(0, MOST)), "pay(0, 1) below 0", ARGUMENT, x -> x.pay(0, 1));
    }

    @Says(promise = 0, words = "If an amount would become greater than 2147483647, the call is not possible, and"
            + " nothing changes.")
    static void amountsNeverOverflow() {
        // 10 a day.
        Start near = then(payer(100, 1), x -> x.charge(0, MOST - 10));
        does(near, "charge() up to the limit", MOST, x -> x.charge(0, 10));
        refuses(near, "charge() beyond it", STATE, x -> x.charge(0, 11));
        refuses(near, "charge() far beyond it", STATE, x -> x.charge(0, MOST));
        does(near, "pass() up to the limit", 0, x -> x.pass(1));
        refuses(near, "pass() beyond it", STATE, x -> x.pass(2));
        Start nearer = then(payer(100, 1), x -> x.charge(0, MOST - 9));
        refuses(nearer, "pass() beyond it by 1", STATE, x -> x.pass(1));
        // Also by the rate ashore, and when a winter lies between.
        Start ashore = then(ashore(100, 1), x -> x.charge(0, MOST - 10));
        does(ashore, "pass() ashore up to the limit", 0, x -> x.pass(1));
        refuses(ashore, "pass() ashore beyond it", STATE, x -> x.pass(2));
        Start greatest = then(payer(400, 9999999), x -> x.charge(0, MOST - 399999960));
        does(greatest, "the greatest fee up to the limit", 0, x -> x.pass(1));
        refuses(then(greatest, x -> x.charge(0, 1)), "the greatest fee beyond it", STATE, x -> x.pass(1));
    }

    // ---- promise 19: pass

    @Says(promise = 19, words = {"Lets days pass.", "Undoable."})
    static void passLetsDaysPass() {
        Start one = payer(100, 1);
        does(one, "pass(1)", 0, x -> x.pass(1));
        tells(then(one, x -> x.pass(1)), "info(4) after pass(1)", 1, x -> x.info(4));
        tells(then(one, x -> x.pass(400)), "info(4) after pass(400)", 400, x -> x.info(4));
        tells(then(one, x -> x.pass(400)), "boat(0, 7) after pass(400)", 4000, x -> x.boat(0, 7));
        does(WINTER, "pass(400) from winter to spring and winter again", 2, x -> x.pass(400));
    }

    @Says(promise = 19, words = {"n: how many, 1 to 400", "Throws IllegalArgumentException if n is out of range"})
    static void passOfOneTo400Days() {
        does(MarinaBerths::new, "pass(1)", 0, x -> x.pass(1));
        does(MarinaBerths::new, "pass(400)", 1, x -> x.pass(400));
        refuses(MarinaBerths::new, "pass(0)", ARGUMENT, x -> x.pass(0));
        refuses(MarinaBerths::new, "pass(-1)", ARGUMENT, x -> x.pass(-1));
        refuses(MarinaBerths::new, "pass(401)", ARGUMENT, x -> x.pass(401));
        refuses(MarinaBerths::new, "pass(-2147483648)", ARGUMENT, x -> x.pass(LEAST));
        refuses(MarinaBerths::new, "pass(2147483647)", ARGUMENT, x -> x.pass(MOST));
    }

    @Says(promise = 19, words = "Returns the number of times that winter or spring began.")
    static void passReturnsHowOftenSeasonsBegan() {
        does(MarinaBerths::new, "none", 0, x -> x.pass(269));
        does(MarinaBerths::new, "winter", 1, x -> x.pass(270));
        Start day60 = start(x -> x.pass(60));
        does(day60, "winter, one day before spring", 1, x -> x.pass(389));
        does(day60, "winter and spring", 2, x -> x.pass(390));
        // From day 4 to day 404: winter on 5, spring on 6, winter on 365, spring on 366.
        Start close = start(x -> { x.set(2, 5); x.set(3, 6); x.pass(4); });
        does(close, "two winters and springs", 4, x -> x.pass(400));
        does(close, "two winters, one spring", 3, x -> x.pass(361));
        tells(then(close, x -> x.pass(361)), "info(5)", 1, x -> x.info(5));
    }

    @Says(promise = 19, words = "Throws IllegalStateException if a boat would owe too much on one of these days (then"
            + " none of them passes)")
    static void passRefusedPassesNoDay() {
        // Boat 1 owes 10 a day more, the others nothing; it may owe 3000 more.
        Start near = start(x -> {
            berths(x, false, 3);
            boats(x, 3);
            x.place(0, 2);
            x.place(1, 1);
            x.await(2);
            x.setRate(1, 1);
            x.charge(1, MOST - 3000);
        });
        does(near, "pass(300), just possible", 1, x -> x.pass(300));
        refuses(near, "pass(301), the last day being too much", STATE, x -> x.pass(301));
        refuses(near, "pass(400), a day on the way being too much", STATE, x -> x.pass(400));
        Start tenLeft = then(near, x -> x.charge(1, 2990));
        does(tenLeft, "pass(1), just possible", 0, x -> x.pass(1));
        refuses(tenLeft, "pass(2)", STATE, x -> x.pass(2));
        Start nineLeft = then(near, x -> x.charge(1, 2991));
        refuses(nineLeft, "pass(1), the first day being too much", STATE, x -> x.pass(1));
        refuses(nineLeft, "pass(400), the first day being too much", STATE, x -> x.pass(400));
        Start noFee = then(near, x -> { x.setRate(1, 0); x.charge(1, 3000); });
        does(noFee, "pass(400) at the limit without a fee", 1, x -> x.pass(400));
        // The 20th boat counts like the others.
        Start last = start(x -> { berths(x, false, 1); boats(x, 20); x.place(19, 0); x.setRate(0, 1); });
        does(then(last, x -> x.charge(19, MOST - 10)), "pass(1) up to its limit", 0, x -> x.pass(1));
        refuses(then(last, x -> x.charge(19, MOST - 9)), "pass(1) beyond its limit", STATE, x -> x.pass(1));
    }

    @Says(promise = 19, words = "(then none of them passes)")
    static void passRefusedBehindAWinterTakesItBack() {
        // A berth for 10 a day, from the third day on the shore for 20 a day.
        Start start = start(x -> {
            berths(x, true, 1);
            boats(x, 1);
            x.place(0, 0);
            x.setRate(0, 1);
            x.set(1, 2);
            x.set(2, 2);
            x.set(3, 4);
            x.charge(0, MOST - 65);
        });
        does(start, "pass(2) into winter", 1, x -> x.pass(2));
        does(start, "pass(4) into spring", 2, x -> x.pass(4));
        refuses(start, "pass(5)", STATE, x -> x.pass(5));
        Start tenMore = then(start, x -> x.charge(0, 10));
        does(tenMore, "pass(3) in winter", 1, x -> x.pass(3));
        refuses(tenMore, "pass(4), the last day in winter being too much", STATE, x -> x.pass(4));
    }

    // ---- promise 20: pay

    /** Boat 0 owes nothing, boat 1 owes 500; no other boat. */
    private static final Start DEBTOR = start(x -> { boats(x, 2); x.charge(1, 500); });

    @Says(promise = 20, words = {"Lets a boat pay.", "Undoable."})
    static void payLowersWhatIsOwed() {
        does(DEBTOR, "pay(1, 200)", 300, x -> x.pay(1, 200));
        Start paid = then(DEBTOR, x -> x.pay(1, 200));
        tells(paid, "boat(1, 7)", 300, x -> x.boat(1, 7));
        tells(paid, "boat(0, 7)", 0, x -> x.boat(0, 7));
        tells(then(paid, x -> x.pay(1, 300)), "boat(1, 7) when all is paid", 0, x -> x.boat(1, 7));
    }

    @Says(promise = 20, words = {"amount: from 1 to what it owes",
            "Throws IllegalArgumentException if amount is out of range"})
    static void payFrom1ToWhatItOwes() {
        does(DEBTOR, "pay(1, 1)", 499, x -> x.pay(1, 1));
        does(DEBTOR, "pay(1, 500)", 0, x -> x.pay(1, 500));
        refuses(DEBTOR, "pay(1, 0)", ARGUMENT, x -> x.pay(1, 0));
        refuses(DEBTOR, "pay(1, -1)", ARGUMENT, x -> x.pay(1, -1));
        refuses(DEBTOR, "pay(1, 501)", ARGUMENT, x -> x.pay(1, 501));
        refuses(DEBTOR, "pay(0, 1) of a boat that owes nothing", ARGUMENT, x -> x.pay(0, 1));
        refuses(DEBTOR, "pay(0, 0) of a boat that owes nothing", ARGUMENT, x -> x.pay(0, 0));
        refuses(DEBTOR, "pay(1, -2147483648)", ARGUMENT, x -> x.pay(1, LEAST));
        refuses(DEBTOR, "pay(1, 2147483647)", ARGUMENT, x -> x.pay(1, MOST));
    }

    @Says(promise = 20, words = "Returns what it owes then.")
    static void payReturnsWhatIsLeft() {
        does(then(DEBTOR, x -> x.charge(1, MOST - 500)), "pay() of 1 from the most", MOST - 1, x -> x.pay(1, 1));
        does(DEBTOR, "pay() of all but 1", 1, x -> x.pay(1, 499));
        does(DEBTOR, "pay() of all", 0, x -> x.pay(1, 500));
    }

    @Says(promise = 20, words = "Throws IndexOutOfBoundsException if there is no such boat")
    static void payOfNoBoat() {
        refuses(DEBTOR, "pay(2, 1)", INDEX, x -> x.pay(2, 1));
        refuses(DEBTOR, "pay(-1, 1)", INDEX, x -> x.pay(-1, 1));
        refuses(MarinaBerths::new, "pay(0, 1) without boats", INDEX, x -> x.pay(0, 1));
        refuses(start(x -> boats(x, 20)), "pay(20, 1) with 20 boats", INDEX, x -> x.pay(20, 1));
        does(start(x -> { boats(x, 20); x.charge(19, 2); }), "pay(19, 1)", 1, x -> x.pay(19, 1));
    }

    // ---- promise 21: charge

    @Says(promise = 21, words = {"Lets a boat owe more.", "Undoable.", "Returns what it owes then."})
    static void chargeRaisesWhatIsOwed() {
        does(DEBTOR, "charge(1, 7)", 507, x -> x.charge(1, 7));
        does(DEBTOR, "charge(0, 7)", 7, x -> x.charge(0, 7));
        tells(then(DEBTOR, x -> x.charge(1, 7)), "boat(1, 7)", 507, x -> x.boat(1, 7));
        tells(then(DEBTOR, x -> x.charge(1, 7)), "boat(0, 7)", 0, x -> x.boat(0, 7));
        // In whatever state the boat is.
        does(then(DEBTOR, x -> x.await(1)), "charge() of a boat that waits", 501, x -> x.charge(1, 1));
    }

    @Says(promise = 21, words = {"amount: 0 to 2147483647", "Throws IllegalArgumentException if amount is negative"})
    static void chargeOf0To2147483647() {
        does(DEBTOR, "charge(1, 0)", 500, x -> x.charge(1, 0));
        does(DEBTOR, "charge(0, 2147483647)", MOST, x -> x.charge(0, MOST));
        refuses(DEBTOR, "charge(1, -1)", ARGUMENT, x -> x.charge(1, -1));
        refuses(DEBTOR, "charge(1, -500)", ARGUMENT, x -> x.charge(1, -500));
        refuses(DEBTOR, "charge(1, -2147483648)", ARGUMENT, x -> x.charge(1, LEAST));
    }

    @Says(promise = 21, words = "Throws IndexOutOfBoundsException if there is no such boat")
    static void chargeOfNoBoat() {
        refuses(DEBTOR, "charge(2, 1)", INDEX, x -> x.charge(2, 1));
        refuses(DEBTOR, "charge(-1, 1)", INDEX, x -> x.charge(-1, 1));
        refuses(MarinaBerths::new, "charge(0, 0) without boats", INDEX, x -> x.charge(0, 0));
        refuses(start(x -> boats(x, 20)), "charge(20, 1) with 20 boats", INDEX, x -> x.charge(20, 1));
        does(start(x -> boats(x, 20)), "charge(19, 1)", 1, x -> x.charge(19, 1));
    }

    @Says(promise = 21, words = "Throws IllegalStateException if it would owe too much")
    static void chargeOfTooMuch() {
        does(DEBTOR, "charge(1, 2147483147), up to the limit", MOST, x -> x.charge(1, MOST - 500));
        refuses(DEBTOR, "charge(1, 2147483148), 1 more", STATE, x -> x.charge(1, MOST - 499));
        refuses(DEBTOR, "charge(1, 2147483647)", STATE, x -> x.charge(1, MOST));
        Start most = then(DEBTOR, x -> x.charge(1, MOST - 500));
        does(most, "charge(1, 0) at the limit", MOST, x -> x.charge(1, 0));
        refuses(most, "charge(1, 1) at the limit", STATE, x -> x.charge(1, 1));
        refuses(most, "charge(1, 2147483647) at the limit", STATE, x -> x.charge(1, MOST));
    }

    // ---- promises 22 and 23: owed, paid

    @Says(promise = 22, words = {"Returns the sum of what all boats owe.", "Returns the sum."})
    static void owedIsTheSumOfAllBoats() {
        tells(MarinaBerths::new, "owed() without boats", 0, x -> x.owed());
        tells(start(x -> boats(x, 1)), "owed() of a boat that owes nothing", 0, x -> x.owed());
        tells(DEBTOR, "owed()", 500, x -> x.owed());
        tells(then(DEBTOR, x -> x.charge(0, MOST)), "owed() of two boats, more than an int", 2147484147L,
                x -> x.owed());
        Start most = start(x -> {
            boats(x, 20);
            for (int k = 0; k < 20; k++) {
                x.charge(k, MOST);
            }
        });
        tells(most, "owed() of 20 boats that owe the most", 42949672940L, x -> x.owed());
        tells(then(most, x -> x.pay(19, MOST)), "owed() when the last one has paid", 40802189293L, x -> x.owed());
    }

    @Says(promise = 23, words = {"Returns the sum of all that was paid since the beginning.", "Returns the sum."})
    static void paidIsTheSumSinceTheBeginning() {
        tells(MarinaBerths::new, "paid() of a new object", 0, x -> x.paid());
        tells(DEBTOR, "paid() when nobody has paid", 0, x -> x.paid());
        tells(then(DEBTOR, x -> x.pay(1, 1)), "paid()", 1, x -> x.paid());
        Start left = then(DEBTOR, x -> { x.pay(1, 500); x.pass(400); });
        tells(left, "paid() a year later", 500, x -> x.paid());
        Start often = start(x -> {
            boats(x, 1);
            for (int k = 0; k < 30; k++) {
                x.charge(0, MOST);
                x.pay(0, MOST);
            }
        });
        tells(often, "paid() of 30 times the most, more than an int", 64424509410L, x -> x.paid());
        tells(then(often, x -> x.undo()), "paid() when the last payment is undone", 62277025763L, x -> x.paid());
    }
}
