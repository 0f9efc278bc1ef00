/** Promises 1 to 11, sentence by sentence. */
final class EdgesOfWaterBerthsBoatsTest extends Edges {
    private static final Start EMPTY = MarinaBerths::new;

    public static void main(String[] args) {
        hold(EdgesOfWaterBerthsBoatsTest.class);
    }

    // ---- promise 1: a new object

    @Says(promise = 1, words = "Creates a marina without berths and boats, on day 0, not in winter.")
    static void newObjectIsEmpty() {
        tells(EMPTY, "number of berths", 0, x -> x.info(6));
        tells(EMPTY, "number of boats", 0, x -> x.info(7));
        tells(EMPTY, "free berths", 0, x -> x.info(8));
        tells(EMPTY, "the day", 0, x -> x.info(4));
        tells(EMPTY, "whether it is winter", 0, x -> x.info(5));
        refuses(EMPTY, "berth(0, 0)", INDEX, x -> x.berth(0, 0));
        refuses(EMPTY, "boat(0, 0)", INDEX, x -> x.boat(0, 0));
        refuses(EMPTY, "undo()", STATE, x -> x.undo());
        due("length of the text", new MarinaBerths().clearText(), 0);
        MarinaBerths used = new MarinaBerths();
        berths(used, true, 1);
        boats(used, 1);
        winter(used);
        tells(EMPTY, "number of boats beside another object", 0, x -> x.info(7));
        tells(EMPTY, "whether it is winter beside another object", 0, x -> x.info(5));
    }

    // ---- promise 2: setTable

    @Says(promise = 2, words = {"Replaces the table of low waters by that of the text", "Undoable."})
    static void setTableReplacesTheTable() {
        Start fourteen = start(x -> table(x, "1,2,3,4,5,6,7,8,9,10,11,12,13,14"));
        Start typed = then(fourteen, x -> text(x, "-20,21"));
        does(typed, "setTable()", 2, x -> x.setTable());
        Start two = then(typed, x -> x.setTable());
        tells(two, "low(0)", -20, x -> x.low(0));
        tells(two, "low(1)", 21, x -> x.low(1));
        tells(two, "low(2), nothing of the old table being left", -20, x -> x.low(2));
        tells(two, "low(13)", 21, x -> x.low(13));
        tells(two, "the lowest water", -20, x -> x.info(12));
        Start back = then(two, x -> x.undo());
        tells(back, "low(13) when it is undone", 14, x -> x.low(13));
        tells(back, "the lowest water when it is undone", 1, x -> x.info(12));
        does(then(EMPTY, x -> text(x, "0")), "setTable() of the table that is", 1, x -> x.setTable());
    }

    @Says(promise = 2, words = "the text stays.")
    static void setTableLeavesTheText() {
        Start set = start(x -> table(x, "1,2"));
        due("length of the text", set.make().clearText(), 3);
        tells(set, "fault()", NONE, x -> x.fault());
        does(set, "setTable() once more", 2, x -> x.setTable());
        changesText(set, "type() behind it", 4, x -> x.type('3'));
        does(then(set, x -> x.type('3')), "setTable() of 1,23", 2, x -> x.setTable());
        tells(then(set, x -> { x.type('3'); x.setTable(); }), "low(1) of 1,23", 23, x -> x.low(1));
        // The table, on the other hand, does not follow the text.
        tells(then(set, x -> x.type('3')), "low(1) before another setTable()", 2, x -> x.low(1));
    }

    @Says(promise = 2, words = "Returns how many numbers it has.")
    static void setTableReturnsHowMany() {
        for (int k = 1; k <= 14; k++) {
            String text = "-5" + ",123".repeat(k - 1);
            does(start(x -> text(x, text)), "setTable() of " + text, k, x -> x.setTable());
        }
    }

    @Says(promise = 2, words = "Throws IllegalArgumentException if the text has a fault")
    static void setTableOfAFault() {
        Start set = start(x -> table(x, "1,2"));
        String fifteen = "1" + ",1".repeat(14);
        for (String text : new String[] {"", "-", "1,", "1,,2", "a", "1 ", "1234", "301", "-301", fifteen}) {
            refuses(then(set, x -> text(x, text)), "setTable() of \"" + text + "\"", ARGUMENT, x -> x.setTable());
        }
        does(then(set, x -> text(x, "300,-300")), "setTable() of 300,-300", 2, x -> x.setTable());
    }

    // ---- promise 3: low

    @Says(promise = 3, words = {"Returns the low water of a day.", "day: any day from 0 on",
            "Returns the low water."})
    static void lowOfAnyDayFrom0On() {
        Start three = start(x -> table(x, "-300,0,300"));
        tells(three, "low(0)", -300, x -> x.low(0));
        tells(three, "low(1)", 0, x -> x.low(1));
        tells(three, "low(2)", 300, x -> x.low(2));
        tells(three, "low(3)", -300, x -> x.low(3));
        tells(three, "low(2147483646)", -300, x -> x.low(MOST - 1));
        tells(three, "low(2147483647)", 0, x -> x.low(MOST));
        // The day is counted from day 0, whatever day it is.
        tells(then(three, x -> x.pass(1)), "low(0) on day 1", -300, x -> x.low(0));
    }

    @Says(promise = 3, words = "Throws IllegalArgumentException if day is negative")
    static void lowOfANegativeDay() {
        Start three = start(x -> table(x, "-300,0,300"));
        refuses(three, "low(-1)", ARGUMENT, x -> x.low(-1));
        refuses(three, "low(-3)", ARGUMENT, x -> x.low(-3));
        refuses(three, "low(-2147483648)", ARGUMENT, x -> x.low(LEAST));
        refuses(EMPTY, "low(-1) of a new object", ARGUMENT, x -> x.low(-1));
    }

    // ---- promise 4: addBerth

    @Says(promise = 4, words = {"Adds a berth, which is free.", "Undoable."})
    static void addedBerthIsFree() {
        Start one = start(x -> { berths(x, true, 1); boats(x, 1); x.place(0, 0); });
        does(one, "addBerth()", 1, x -> x.addBerth(60, 40, true, 5));
        Start two = then(one, x -> x.addBerth(60, 40, true, 5));
        tells(two, "the boat in it", NONE, x -> x.berth(1, 4));
        tells(two, "free berths", 1, x -> x.info(8));
        tells(two, "its depth", 60, x -> x.berth(1, 0));
        tells(two, "its length", 40, x -> x.berth(1, 1));
        tells(two, "whether it is exposed", 1, x -> x.berth(1, 2));
        tells(two, "its rate", 5, x -> x.berth(1, 3));
        // In winter, too.
        tells(then(one, x -> { winter(x); x.addBerth(60, 40, true, 5); }), "exposed, in winter", NONE,
                x -> x.berth(1, 4));
        // A berth that was taken and then undone comes back free.
        Start again = then(one, x -> { x.undo(); x.undo(); x.undo(); x.addBerth(70, 50, false, 6); });
        tells(again, "the boat in a berth that was undone and added again", NONE, x -> x.berth(0, 4));
        tells(again, "its depth", 70, x -> x.berth(0, 0));
    }

    @Says(promise = 4, words = "Returns its number.")
    static void addBerthReturnsItsNumber() {
        for (int k = 0; k < 16; k++) {
            int number = k;
            does(start(x -> berths(x, false, number)), "berth " + k, k, x -> x.addBerth(50, 30, true, 0));
        }
    }

    @Says(promise = 4, words = "Throws IllegalArgumentException if depth, length or rate is out of range")
    static void addBerthOutOfRange() {
        does(EMPTY, "the least", 0, x -> x.addBerth(50, 30, false, 0));
        does(EMPTY, "the greatest", 0, x -> x.addBerth(900, 400, true, 9999999));
        refuses(EMPTY, "depth 49", ARGUMENT, x -> x.addBerth(49, 30, false, 0));
        refuses(EMPTY, "depth 901", ARGUMENT, x -> x.addBerth(901, 400, true, 9999999));
        refuses(EMPTY, "length 29", ARGUMENT, x -> x.addBerth(50, 29, false, 0));
        refuses(EMPTY, "length 401", ARGUMENT, x -> x.addBerth(900, 401, true, 9999999));
        refuses(EMPTY, "rate -1", ARGUMENT, x -> x.addBerth(50, 30, false, -1));
        refuses(EMPTY, "rate 10000000", ARGUMENT, x -> x.addBerth(900, 400, true, 10000000));
        refuses(EMPTY, "depth -2147483648", ARGUMENT, x -> x.addBerth(LEAST, 30, false, 0));
        refuses(EMPTY, "depth 2147483647", ARGUMENT, x -> x.addBerth(MOST, 30, false, 0));
        refuses(EMPTY, "length -2147483648", ARGUMENT, x -> x.addBerth(50, LEAST, false, 0));
        refuses(EMPTY, "length 2147483647", ARGUMENT, x -> x.addBerth(50, MOST, false, 0));
        refuses(EMPTY, "rate -2147483648", ARGUMENT, x -> x.addBerth(50, 30, false, LEAST));
        refuses(EMPTY, "rate 2147483647", ARGUMENT, x -> x.addBerth(50, 30, false, MOST));
    }

    @Says(promise = 4, words = "Throws IllegalStateException if there are 16 berths")
    static void addBerthWith16Berths() {
        does(start(x -> berths(x, true, 15)), "with 15 berths", 15, x -> x.addBerth(50, 30, false, 0));
        Start full = start(x -> berths(x, true, 16));
        refuses(full, "with 16 berths", STATE, x -> x.addBerth(50, 30, false, 0));
        refuses(full, "with 16 berths, depth 901", ARGUMENT, x -> x.addBerth(901, 30, false, 0));
        tells(full, "berth(15, 0), the last berth", 300, x -> x.berth(15, 0));
        does(then(full, x -> x.undo()), "when one of 16 was undone", 15, x -> x.addBerth(50, 30, false, 0));
    }

    // ---- promise 5: addBoat

    @Says(promise = 5, words = {"Adds a boat, which is away.", "Undoable."})
    static void addedBoatIsAway() {
        does(start(x -> boats(x, 1)), "addBoat()", 1, x -> x.addBoat(60, 40, 5));
        dueNewBoat(start(x -> { boats(x, 1); x.addBoat(60, 40, 5); }), 1);
        // A boat of that number that was undone leaves nothing behind.
        dueNewBoat(start(x -> {
            berths(x, true, 1);
            boats(x, 1);
            x.place(0, 0);
            x.charge(0, 5);
            x.undo();
            x.undo();
            x.undo();
            x.addBoat(60, 40, 5);
        }), 0);
        dueNewBoat(start(x -> { boats(x, 1); x.await(0); x.undo(); x.undo(); x.addBoat(60, 40, 5); }), 0);
    }

    private static void dueNewBoat(Start start, int boat) {
        int[] facts = {60, 40, 5, 0, NONE, NONE, NONE, 0, 0, 1};
        for (int k = 0; k < facts.length; k++) {
            int what = k;
            tells(start, "boat(" + boat + ", " + k + ")", facts[k], x -> x.boat(boat, what));
        }
        tells(start, "waiting(0)", NONE, x -> x.waiting(0));
    }

    @Says(promise = 5, words = "Returns its number.")
    static void addBoatReturnsItsNumber() {
        for (int k = 0; k < 20; k++) {
            int number = k;
            does(start(x -> boats(x, number)), "boat " + k, k, x -> x.addBoat(30, 20, 0));
        }
    }

    @Says(promise = 5, words = "Throws IllegalArgumentException if one of them is out of range")
    static void addBoatOutOfRange() {
        does(EMPTY, "the least", 0, x -> x.addBoat(30, 20, 0));
        does(EMPTY, "the greatest", 0, x -> x.addBoat(400, 500, 99));
        refuses(EMPTY, "length 29", ARGUMENT, x -> x.addBoat(29, 20, 0));
        refuses(EMPTY, "length 401", ARGUMENT, x -> x.addBoat(401, 500, 99));
        refuses(EMPTY, "draft 19", ARGUMENT, x -> x.addBoat(30, 19, 0));
        refuses(EMPTY, "draft 501", ARGUMENT, x -> x.addBoat(400, 501, 99));
        refuses(EMPTY, "bonus -1", ARGUMENT, x -> x.addBoat(30, 20, -1));
        refuses(EMPTY, "bonus 100", ARGUMENT, x -> x.addBoat(400, 500, 100));
        refuses(EMPTY, "length -2147483648", ARGUMENT, x -> x.addBoat(LEAST, 20, 0));
        refuses(EMPTY, "length 2147483647", ARGUMENT, x -> x.addBoat(MOST, 20, 0));
        refuses(EMPTY, "draft -2147483648", ARGUMENT, x -> x.addBoat(30, LEAST, 0));
        refuses(EMPTY, "draft 2147483647", ARGUMENT, x -> x.addBoat(30, MOST, 0));
        refuses(EMPTY, "bonus -2147483648", ARGUMENT, x -> x.addBoat(30, 20, LEAST));
        refuses(EMPTY, "bonus 2147483647", ARGUMENT, x -> x.addBoat(30, 20, MOST));
    }

    @Says(promise = 5, words = "Throws IllegalStateException if there are 20 boats")
    static void addBoatWith20Boats() {
        does(start(x -> boats(x, 19)), "with 19 boats", 19, x -> x.addBoat(30, 20, 0));
        Start full = start(x -> boats(x, 20));
        refuses(full, "with 20 boats", STATE, x -> x.addBoat(30, 20, 0));
        refuses(full, "with 20 boats, length 29", ARGUMENT, x -> x.addBoat(29, 20, 0));
        tells(full, "boat(19, 0), the last boat", 100, x -> x.boat(19, 0));
        does(then(full, x -> x.undo()), "when one of 20 was undone", 19, x -> x.addBoat(30, 20, 0));
    }

    // ---- promise 6: set

    @Says(promise = 6, words = {"Sets something.", "Undoable.",
            "what: 0 the clearance, 1 the rate ashore, 2 the first day of winter, 3 the first day of spring"})
    static void setSetsOneOfFour() {
        int[] values = {55, 66, 77, 88};
        int[] initial = {30, 0, 270, 90};
        for (int k = 0; k < 4; k++) {
            int what = k;
            int value = values[k];
            does(EMPTY, "set(" + k + ", " + value + ")", initial[k], x -> x.set(what, value));
            for (int other = 0; other < 4; other++) {
                int asked = other;
                tells(then(EMPTY, x -> x.set(what, value)), "info(" + other + ") after set(" + k + ", " + value + ")",
                        other == k ? value : initial[other], x -> x.info(asked));
            }
        }
        // The clearance counts at once.
        Start just = start(x -> { berths(x, true, 1); x.addBoat(100, 270, 0); });
        tells(just, "fits(0, 0) with a clearance of 30", 1, x -> x.fits(0, 0) ? 1 : 0);
        tells(then(just, x -> x.set(0, 31)), "fits(0, 0) with 31", 0, x -> x.fits(0, 0) ? 1 : 0);
    }

    @Says(promise = 6, words = "Returns the previous one.")
    static void setReturnsThePreviousOne() {
        Start set = start(x -> { x.set(0, 0); x.set(1, 9999999); x.set(2, 0); x.set(3, 359); });
        does(set, "set(0, 100)", 0, x -> x.set(0, 100));
        does(set, "set(1, 0)", 9999999, x -> x.set(1, 0));
        does(set, "set(2, 358)", 0, x -> x.set(2, 358));
        does(set, "set(3, 1)", 359, x -> x.set(3, 1));
        does(set, "set(0, 0), as it is", 0, x -> x.set(0, 0));
    }

    @Says(promise = 6, words = "Throws IllegalArgumentException if what")
    static void setOfWhatOutOfRange() {
        does(EMPTY, "set(0, 1)", 30, x -> x.set(0, 1));
        does(EMPTY, "set(3, 1)", 90, x -> x.set(3, 1));
        refuses(EMPTY, "set(-1, 1)", ARGUMENT, x -> x.set(-1, 1));
        refuses(EMPTY, "set(4, 1)", ARGUMENT, x -> x.set(4, 1));
        refuses(EMPTY, "set(-2147483648, 1)", ARGUMENT, x -> x.set(LEAST, 1));
        refuses(EMPTY, "set(2147483647, 1)", ARGUMENT, x -> x.set(MOST, 1));
    }

    @Says(promise = 6, words = "or value is out of range")
    static void setOfAValueOutOfRange() {
        int[] greatest = {100, 9999999, 359, 359};
        int[] initial = {30, 0, 270, 90};
        for (int k = 0; k < 4; k++) {
            int what = k;
            int most = greatest[k];
            does(EMPTY, "set(" + k + ", 0)", initial[k], x -> x.set(what, 0));
            does(EMPTY, "set(" + k + ", " + most + ")", initial[k], x -> x.set(what, most));
            refuses(EMPTY, "set(" + k + ", -1)", ARGUMENT, x -> x.set(what, -1));
            refuses(EMPTY, "set(" + k + ", " + (most + 1) + ")", ARGUMENT, x -> x.set(what, most + 1));
            refuses(EMPTY, "set(" + k + ", -2147483648)", ARGUMENT, x -> x.set(what, LEAST));
            refuses(EMPTY, "set(" + k + ", 2147483647)", ARGUMENT, x -> x.set(what, MOST));
        }
    }

    @Says(promise = 6, words = "or both days would be the same")
    static void setOfBothDaysTheSame() {
        does(EMPTY, "set(2, 89)", 270, x -> x.set(2, 89));
        refuses(EMPTY, "set(2, 90)", ARGUMENT, x -> x.set(2, 90));
        does(EMPTY, "set(2, 91)", 270, x -> x.set(2, 91));
        does(EMPTY, "set(3, 269)", 90, x -> x.set(3, 269));
        refuses(EMPTY, "set(3, 270)", ARGUMENT, x -> x.set(3, 270));
        does(EMPTY, "set(3, 271)", 90, x -> x.set(3, 271));
        // It is the day as it is now that counts.
        Start moved = start(x -> { x.set(2, 100); x.set(3, 270); });
        refuses(moved, "set(2, 270)", ARGUMENT, x -> x.set(2, 270));
        refuses(moved, "set(3, 100)", ARGUMENT, x -> x.set(3, 100));
        does(moved, "set(2, 90), which spring has left", 100, x -> x.set(2, 90));
        does(moved, "set(2, 100), as it is", 100, x -> x.set(2, 100));
        // Only the two days must differ from each other.
        does(start(x -> x.set(1, 90)), "set(0, 90) beside a rate of 90", 30, x -> x.set(0, 90));
    }

    // ---- promise 7: setRate

    private static final Start TWO_BERTHS = start(x -> {
        x.addBerth(200, 100, true, 7);
        x.addBerth(150, 80, false, 8);
    });

    @Says(promise = 7, words = {"Sets the rate of a berth.", "Undoable."})
    static void setRateOfABerth() {
        does(TWO_BERTHS, "setRate(1, 5)", 8, x -> x.setRate(1, 5));
        tells(then(TWO_BERTHS, x -> x.setRate(1, 5)), "berth(1, 3)", 5, x -> x.berth(1, 3));
        tells(then(TWO_BERTHS, x -> x.setRate(1, 5)), "berth(0, 3), the other one", 7, x -> x.berth(0, 3));
    }

    @Says(promise = 7, words = {"rate: 0 to 9999999", "Throws IllegalArgumentException if rate is out of range"})
    static void setRateFrom0To9999999() {
        does(TWO_BERTHS, "setRate(0, 0)", 7, x -> x.setRate(0, 0));
        does(TWO_BERTHS, "setRate(0, 9999999)", 7, x -> x.setRate(0, 9999999));
        refuses(TWO_BERTHS, "setRate(0, -1)", ARGUMENT, x -> x.setRate(0, -1));
        refuses(TWO_BERTHS, "setRate(0, 10000000)", ARGUMENT, x -> x.setRate(0, 10000000));
        refuses(TWO_BERTHS, "setRate(0, -2147483648)", ARGUMENT, x -> x.setRate(0, LEAST));
        refuses(TWO_BERTHS, "setRate(0, 2147483647)", ARGUMENT, x -> x.setRate(0, MOST));
    }

    @Says(promise = 7, words = "Returns the previous one.")
    static void setRateReturnsThePreviousOne() {
        does(then(TWO_BERTHS, x -> x.setRate(0, 9999999)), "setRate(0, 1)", 9999999, x -> x.setRate(0, 1));
        does(then(TWO_BERTHS, x -> x.setRate(0, 0)), "setRate(0, 1)", 0, x -> x.setRate(0, 1));
        does(TWO_BERTHS, "setRate(1, 8), as it is", 8, x -> x.setRate(1, 8));
    }

    @Says(promise = 7, words = "Throws IndexOutOfBoundsException if there is no such berth")
    static void setRateOfNoBerth() {
        refuses(TWO_BERTHS, "setRate(2, 0)", INDEX, x -> x.setRate(2, 0));
        refuses(TWO_BERTHS, "setRate(-1, 0)", INDEX, x -> x.setRate(-1, 0));
        refuses(EMPTY, "setRate(0, 0) without berths", INDEX, x -> x.setRate(0, 0));
        Start full = start(x -> berths(x, true, 16));
        does(full, "setRate(15, 9)", 0, x -> x.setRate(15, 9));
        refuses(full, "setRate(16, 9)", INDEX, x -> x.setRate(16, 9));
        refuses(full, "setRate(2147483647, 9)", INDEX, x -> x.setRate(MOST, 9));
        refuses(full, "setRate(-2147483648, 9)", INDEX, x -> x.setRate(LEAST, 9));
    }

    // ---- promise 8: berth

    @Says(promise = 8, words = {"Returns something about a berth.",
            "what: 0 its depth, 1 its length, 2 whether it is exposed (0 or 1), 3 its rate", "Returns that number."})
    static void berthTellsHowItWasAdded() {
        int[] first = {200, 100, 1, 7};
        int[] second = {150, 80, 0, 8};
        for (int k = 0; k < 4; k++) {
            int what = k;
            tells(TWO_BERTHS, "berth(0, " + k + ")", first[k], x -> x.berth(0, what));
            tells(TWO_BERTHS, "berth(1, " + k + ")", second[k], x -> x.berth(1, what));
        }
    }

    @Says(promise = 8, words = "4 the boat in it (NONE if it is free)")
    static void berthTellsTheBoatInIt() {
        Start two = start(x -> { berths(x, false, 2); boats(x, 20); });
        tells(two, "a free berth", NONE, x -> x.berth(0, 4));
        tells(then(two, x -> x.place(0, 0)), "boat 0", 0, x -> x.berth(0, 4));
        tells(then(two, x -> x.place(0, 0)), "the other berth", NONE, x -> x.berth(1, 4));
        tells(then(two, x -> x.place(19, 1)), "boat 19", 19, x -> x.berth(1, 4));
        tells(then(two, x -> { x.place(19, 1); x.leave(19); }), "a berth that was left", NONE, x -> x.berth(1, 4));
    }

    @Says(promise = 8, words = "5 the lowest depth of water in it by the table")
    static void berthTellsTheLowestDepthOfWater() {
        Start two = start(x -> { x.addBerth(50, 30, true, 0); x.addBerth(900, 30, true, 0); });
        tells(two, "by the table of a new object", 50, x -> x.berth(0, 5));
        Start low = then(two, x -> table(x, "300,-300"));
        tells(low, "the least that there is", -250, x -> x.berth(0, 5));
        tells(low, "of a deep berth", 600, x -> x.berth(1, 5));
        tells(then(two, x -> table(x, "300")), "the greatest that there is", 1200, x -> x.berth(1, 5));
        // It is not that of today.
        tells(then(two, x -> { table(x, "0,-50"); x.set(0, 0); }), "today the water is higher", 0, x -> x.berth(0, 5));
    }

    @Says(promise = 8, words = "6 the number of boats that fit it")
    static void berthTellsHowManyBoatsFit() {
        Start one = start(x -> { x.addBerth(130, 100, true, 0); });
        tells(one, "without boats", 0, x -> x.berth(0, 6));
        Start three = then(one, x -> { x.addBoat(100, 100, 0); x.addBoat(101, 100, 0); x.addBoat(100, 101, 0); });
        tells(three, "one that just fits, one too long, one too deep", 1, x -> x.berth(0, 6));
        tells(then(three, x -> x.set(0, 29)), "with less clearance", 2, x -> x.berth(0, 6));
        tells(then(three, x -> x.place(0, 0)), "the boat in it counts, too", 1, x -> x.berth(0, 6));
        tells(start(x -> { berths(x, true, 2); boats(x, 20); x.place(19, 1); x.await(0); }),
                "20 boats, in whatever state they are", 20, x -> x.berth(0, 6));
    }

    @Says(promise = 8, words = "Throws IndexOutOfBoundsException if there is no such berth")
    static void berthOfNoBerth() {
        refuses(TWO_BERTHS, "berth(2, 0)", INDEX, x -> x.berth(2, 0));
        refuses(TWO_BERTHS, "berth(-1, 0)", INDEX, x -> x.berth(-1, 0));
        refuses(EMPTY, "berth(0, 0) without berths", INDEX, x -> x.berth(0, 0));
        Start full = start(x -> berths(x, true, 16));
        tells(full, "berth(15, 0)", 300, x -> x.berth(15, 0));
        refuses(full, "berth(16, 0)", INDEX, x -> x.berth(16, 0));
        refuses(full, "berth(2147483647, 0)", INDEX, x -> x.berth(MOST, 0));
        refuses(full, "berth(-2147483648, 0)", INDEX, x -> x.berth(LEAST, 0));
        refuses(then(TWO_BERTHS, x -> x.undo()), "berth(1, 0) when it was undone", INDEX, x -> x.berth(1, 0));
    }

    @Says(promise = 8, words = "Throws IllegalArgumentException if what is not 0 to 6")
    static void berthWhatIs0To6() {
        tells(TWO_BERTHS, "berth(0, 0)", 200, x -> x.berth(0, 0));
        tells(TWO_BERTHS, "berth(0, 6)", 0, x -> x.berth(0, 6));
        refuses(TWO_BERTHS, "berth(0, -1)", ARGUMENT, x -> x.berth(0, -1));
        refuses(TWO_BERTHS, "berth(0, 7)", ARGUMENT, x -> x.berth(0, 7));
        refuses(TWO_BERTHS, "berth(0, -2147483648)", ARGUMENT, x -> x.berth(0, LEAST));
        refuses(TWO_BERTHS, "berth(0, 2147483647)", ARGUMENT, x -> x.berth(0, MOST));
    }

    // ---- promise 9: boat

    /** Berth 0 is exposed, berth 1 sheltered; boat 0 just fits both, boat 1 is the greatest that there is. */
    private static final Start TWO_BOATS = start(x -> {
        x.addBerth(200, 100, true, 10);
        x.addBerth(200, 100, false, 20);
        x.addBoat(100, 170, 3);
        x.addBoat(400, 500, 99);
    });

    @Says(promise = 9, words = {"Returns something about a boat.", "what: 0 its length, 1 its draft, 2 its bonus",
            "Returns that number."})
    static void boatTellsHowItWasAdded() {
        int[] first = {100, 170, 3};
        int[] second = {400, 500, 99};
        for (int k = 0; k < 3; k++) {
            int what = k;
            tells(TWO_BOATS, "boat(0, " + k + ")", first[k], x -> x.boat(0, what));
            tells(TWO_BOATS, "boat(1, " + k + ")", second[k], x -> x.boat(1, what));
        }
    }

    @Says(promise = 9, words = {"3 its state", "4 its berth (NONE if it is in none)"})
    static void boatTellsItsStateAndBerth() {
        tells(TWO_BOATS, "state of a boat that is away", 0, x -> x.boat(0, 3));
        tells(TWO_BOATS, "berth of a boat that is away", NONE, x -> x.boat(0, 4));
        tells(then(TWO_BOATS, x -> x.place(0, 0)), "state in berth 0", 1, x -> x.boat(0, 3));
        tells(then(TWO_BOATS, x -> x.place(0, 0)), "berth 0", 0, x -> x.boat(0, 4));
        tells(then(TWO_BOATS, x -> x.place(0, 1)), "berth 1", 1, x -> x.boat(0, 4));
        tells(then(TWO_BOATS, x -> x.await(0)), "state of a boat that waits", 2, x -> x.boat(0, 3));
        tells(then(TWO_BOATS, x -> x.await(0)), "berth of a boat that waits", NONE, x -> x.boat(0, 4));
        Start ashore = then(TWO_BOATS, x -> { x.place(0, 0); x.set(0, 100); winter(x); });
        tells(ashore, "state ashore", 3, x -> x.boat(0, 3));
        tells(ashore, "berth ashore", NONE, x -> x.boat(0, 4));
    }

    @Says(promise = 9, words = "5 its points (NONE if it does not wait)")
    static void boatTellsItsPoints() {
        tells(TWO_BOATS, "points of a boat that is away", NONE, x -> x.boat(0, 5));
        tells(then(TWO_BOATS, x -> x.await(0)), "points on the first day", 3, x -> x.boat(0, 5));
        tells(then(TWO_BOATS, x -> { x.await(0); x.pass(1); }), "points a day later", 4, x -> x.boat(0, 5));
        tells(then(TWO_BOATS, x -> { x.await(0); x.pass(1); x.place(0, 0); }), "points in a berth", NONE,
                x -> x.boat(0, 5));
        tells(then(TWO_BOATS, x -> { x.await(0); x.leave(0); }), "points of a boat that left", NONE,
                x -> x.boat(0, 5));
        tells(then(TWO_BOATS, x -> { x.place(0, 0); x.set(0, 100); winter(x); }), "points ashore", NONE,
                x -> x.boat(0, 5));
    }

    @Says(promise = 9, words = "6 its home (NONE if it has none)")
    static void boatTellsItsHome() {
        tells(TWO_BOATS, "home of a boat that is away", NONE, x -> x.boat(0, 6));
        Start placed = then(TWO_BOATS, x -> x.place(0, 0));
        tells(placed, "home before winter", NONE, x -> x.boat(0, 6));
        tells(then(placed, x -> winter(x)), "home in a sheltered berth", 0, x -> x.boat(0, 6));
        tells(then(placed, x -> { x.set(0, 100); winter(x); }), "home ashore", 0, x -> x.boat(0, 6));
        tells(then(TWO_BOATS, x -> { x.place(0, 1); winter(x); }), "home of a sheltered boat", NONE,
                x -> x.boat(0, 6));
        tells(then(placed, x -> { winter(x); spring(x); }), "home in spring", NONE, x -> x.boat(0, 6));
    }

    @Says(promise = 9, words = "7 what it owes")
    static void boatTellsWhatItOwes() {
        tells(TWO_BOATS, "initially", 0, x -> x.boat(0, 7));
        tells(then(TWO_BOATS, x -> x.charge(0, MOST)), "the most", MOST, x -> x.boat(0, 7));
        tells(then(TWO_BOATS, x -> x.charge(0, MOST)), "the other boat", 0, x -> x.boat(1, 7));
        tells(then(TWO_BOATS, x -> { x.place(0, 1); x.pass(2); }), "100 * 20 / 10 for 2 days", 400, x -> x.boat(0, 7));
    }

    @Says(promise = 9, words = "8 whether it is aground today (0 or 1)")
    static void boatTellsWhetherItIsAground() {
        Start placed = then(TWO_BOATS, x -> { x.place(0, 0); table(x, "-30,-31"); });
        tells(placed, "just not, and without the clearance", 0, x -> x.boat(0, 8));
        tells(then(placed, x -> x.pass(1)), "by 1", 1, x -> x.boat(0, 8));
        tells(then(placed, x -> x.pass(2)), "not the day after", 0, x -> x.boat(0, 8));
        Start left = then(placed, x -> { x.setRate(0, 0); x.pass(1); x.leave(0); });
        tells(left, "when it has left", 0, x -> x.boat(0, 8));
    }

    @Says(promise = 9, words = "9 whether it fits the berth in which it is (0 or 1; 1 if it is in none)")
    static void boatTellsWhetherItFitsItsBerth() {
        Start placed = then(TWO_BOATS, x -> x.place(0, 0));
        tells(placed, "it just fits", 1, x -> x.boat(0, 9));
        tells(then(placed, x -> x.set(0, 31)), "1 more clearance", 0, x -> x.boat(0, 9));
        tells(then(placed, x -> table(x, "0,-1")), "1 less water on another day", 0, x -> x.boat(0, 9));
        tells(TWO_BOATS, "away, and too long for every berth", 1, x -> x.boat(1, 9));
        tells(then(TWO_BOATS, x -> x.await(1)), "waiting, and too long for every berth", 1, x -> x.boat(1, 9));
        tells(then(placed, x -> { x.set(0, 100); winter(x); }), "ashore", 1, x -> x.boat(0, 9));
    }

    @Says(promise = 9, words = "Throws IndexOutOfBoundsException if there is no such boat")
    static void boatOfNoBoat() {
        refuses(TWO_BOATS, "boat(2, 0)", INDEX, x -> x.boat(2, 0));
        refuses(TWO_BOATS, "boat(-1, 0)", INDEX, x -> x.boat(-1, 0));
        refuses(EMPTY, "boat(0, 0) without boats", INDEX, x -> x.boat(0, 0));
        Start full = start(x -> boats(x, 20));
        tells(full, "boat(19, 0)", 100, x -> x.boat(19, 0));
        refuses(full, "boat(20, 0)", INDEX, x -> x.boat(20, 0));
        refuses(full, "boat(2147483647, 0)", INDEX, x -> x.boat(MOST, 0));
        refuses(full, "boat(-2147483648, 0)", INDEX, x -> x.boat(LEAST, 0));
        refuses(then(TWO_BOATS, x -> x.undo()), "boat(1, 0) when it was undone", INDEX, x -> x.boat(1, 0));
    }

    @Says(promise = 9, words = "Throws IllegalArgumentException if what is not 0 to 9")
    static void boatWhatIs0To9() {
        tells(TWO_BOATS, "boat(0, 0)", 100, x -> x.boat(0, 0));
        tells(TWO_BOATS, "boat(0, 9)", 1, x -> x.boat(0, 9));
        refuses(TWO_BOATS, "boat(0, -1)", ARGUMENT, x -> x.boat(0, -1));
        refuses(TWO_BOATS, "boat(0, 10)", ARGUMENT, x -> x.boat(0, 10));
        refuses(TWO_BOATS, "boat(0, -2147483648)", ARGUMENT, x -> x.boat(0, LEAST));
        refuses(TWO_BOATS, "boat(0, 2147483647)", ARGUMENT, x -> x.boat(0, MOST));
    }

    // ---- promise 10: fits

    @Says(promise = 10, words = {"Tells whether a boat fits a berth.", "Returns whether it does."})
    static void fitsTellsWhetherABoatFits() {
        Start one = start(x -> {
            x.addBerth(200, 100, true, 0);
            x.addBoat(100, 170, 0);
            x.addBoat(101, 170, 0);
            x.addBoat(100, 171, 0);
        });
        tells(one, "it just fits", 1, x -> x.fits(0, 0) ? 1 : 0);
        tells(one, "too long by 1", 0, x -> x.fits(1, 0) ? 1 : 0);
        tells(one, "too deep by 1", 0, x -> x.fits(2, 0) ? 1 : 0);
        Start taken = then(one, x -> x.place(0, 0));
        tells(taken, "the boat that is in it", 1, x -> x.fits(0, 0) ? 1 : 0);
        tells(then(taken, x -> x.set(0, 0)), "a boat when another is in it", 1, x -> x.fits(2, 0) ? 1 : 0);
        tells(then(one, x -> winter(x)), "an exposed berth in winter", 1, x -> x.fits(0, 0) ? 1 : 0);
    }

    @Says(promise = 10, words = "Throws IndexOutOfBoundsException if there is no such boat or berth")
    static void fitsOfNoBoatOrBerth() {
        Start one = start(x -> { berths(x, true, 1); boats(x, 2); });
        tells(one, "fits(1, 0)", 1, x -> x.fits(1, 0) ? 1 : 0);
        refuses(one, "fits(2, 0)", INDEX, x -> x.fits(2, 0) ? 1 : 0);
        refuses(one, "fits(-1, 0)", INDEX, x -> x.fits(-1, 0) ? 1 : 0);
        refuses(one, "fits(0, 1)", INDEX, x -> x.fits(0, 1) ? 1 : 0);
        refuses(one, "fits(0, -1)", INDEX, x -> x.fits(0, -1) ? 1 : 0);
        refuses(one, "fits(2, 1)", INDEX, x -> x.fits(2, 1) ? 1 : 0);
        refuses(EMPTY, "fits(0, 0) of a new object", INDEX, x -> x.fits(0, 0) ? 1 : 0);
        Start full = start(x -> { berths(x, true, 16); boats(x, 20); });
        tells(full, "fits(19, 15)", 1, x -> x.fits(19, 15) ? 1 : 0);
        refuses(full, "fits(20, 15)", INDEX, x -> x.fits(20, 15) ? 1 : 0);
        refuses(full, "fits(19, 16)", INDEX, x -> x.fits(19, 16) ? 1 : 0);
        refuses(full, "fits(2147483647, 0)", INDEX, x -> x.fits(MOST, 0) ? 1 : 0);
        refuses(full, "fits(0, -2147483648)", INDEX, x -> x.fits(0, LEAST) ? 1 : 0);
    }

    // ---- promise 11: info

    @Says(promise = 11, words = {"Returns a number.", "what: 0 to 3 as for set(), 4 d, 5 whether it is winter (0 or 1)",
            "Returns that number."})
    static void infoTellsWhatIsSetAndTheDay() {
        Start set = start(x -> { x.set(0, 0); x.set(1, 9999999); x.set(2, 359); x.set(3, 0); x.pass(400); });
        int[] facts = {0, 9999999, 359, 0, 400, 0};
        for (int k = 0; k < facts.length; k++) {
            int what = k;
            tells(set, "info(" + k + ")", facts[k], x -> x.info(what));
        }
        tells(start(x -> { x.set(2, 359); x.pass(359); }), "info(5) in winter", 1, x -> x.info(5));
    }

    @Says(promise = 11, words = "6 the number of berths, 7 of boats, 8 of free berths, 9 of waiting boats, 10 of boats"
            + " ashore")
    static void infoCounts() {
        dueInfo(EMPTY, 0, 0, 0, 0, 0);
        Start full = start(x -> { berths(x, true, 16); boats(x, 20); });
        dueInfo(full, 16, 20, 16, 0, 0);
        Start taken = then(full, x -> {
            for (int k = 0; k < 16; k++) {
                x.place(k, k);
            }
        });
        dueInfo(taken, 16, 20, 0, 0, 0);
        Start waiting = then(taken, x -> { x.await(16); x.await(17); x.await(18); x.await(19); });
        dueInfo(waiting, 16, 20, 0, 4, 0);
        dueInfo(then(waiting, x -> winter(x)), 16, 20, 16, 4, 16);
        dueInfo(then(waiting, x -> { winter(x); x.leave(0); }), 16, 20, 16, 4, 15);
        Start allWait = then(full, x -> {
            for (int k = 0; k < 20; k++) {
                x.await(k);
            }
        });
        dueInfo(allWait, 16, 20, 16, 20, 0);
    }

    private static void dueInfo(Start start, int... facts) {
        for (int k = 0; k < facts.length; k++) {
            int what = 6 + k;
            tells(start, "info(" + what + ")", facts[k], x -> x.info(what));
        }
    }

    @Says(promise = 11, words = "11 of boats that are aground today")
    static void infoCountsTheBoatsAground() {
        tells(EMPTY, "info(11) of a new object", 0, x -> x.info(11));
        Start days = start(x -> {
            x.addBerth(200, 100, true, 0);
            x.addBerth(201, 100, true, 0);
            x.addBoat(100, 170, 0);
            x.addBoat(100, 170, 0);
            x.addBoat(100, 170, 0);
            x.place(0, 0);
            x.place(1, 1);
            table(x, "-30,-31,-32,0");
        });
        tells(days, "none on the first day", 0, x -> x.info(11));
        tells(then(days, x -> x.pass(1)), "one on the second", 1, x -> x.info(11));
        tells(then(days, x -> x.pass(2)), "two on the third", 2, x -> x.info(11));
        tells(then(days, x -> x.pass(3)), "none on the fourth", 0, x -> x.info(11));
        tells(then(days, x -> x.pass(6)), "two when the table has come round", 2, x -> x.info(11));
    }

    @Says(promise = 11, words = "12 the lowest water, 13 how many numbers the table has")
    static void infoTellsOfTheTable() {
        tells(EMPTY, "info(12) of a new object", 0, x -> x.info(12));
        tells(EMPTY, "info(13) of a new object", 1, x -> x.info(13));
        Start fourteen = start(x -> table(x, "1,1,1,1,1,1,1,1,1,1,1,1,1,-300"));
        tells(fourteen, "info(12), the last of 14", -300, x -> x.info(12));
        tells(fourteen, "info(13), the most", 14, x -> x.info(13));
        tells(then(fourteen, x -> table(x, "300")), "info(12), the greatest", 300, x -> x.info(12));
        tells(then(fourteen, x -> table(x, "300")), "info(13), the least", 1, x -> x.info(13));
    }

    @Says(promise = 11, words = "Throws IllegalArgumentException if what is not 0 to 13")
    static void infoWhatIs0To13() {
        tells(EMPTY, "info(0)", 30, x -> x.info(0));
        tells(EMPTY, "info(13)", 1, x -> x.info(13));
        refuses(EMPTY, "info(-1)", ARGUMENT, x -> x.info(-1));
        refuses(EMPTY, "info(14)", ARGUMENT, x -> x.info(14));
        refuses(EMPTY, "info(-2147483648)", ARGUMENT, x -> x.info(LEAST));
        refuses(EMPTY, "info(2147483647)", ARGUMENT, x -> x.info(MOST));
    }
}
