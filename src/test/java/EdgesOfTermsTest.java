/** The terms of the document up to the bills, and its words on texts, undo and exceptions, sentence by sentence. */
final class EdgesOfTermsTest extends Edges {
    private static final String FOURTEEN = "1,-2,3,-4,5,-6,7,-8,9,-10,11,-12,13,-14";

    public static void main(String[] args) {
        hold(EdgesOfTermsTest.class);
    }

    @Says(promise = 0, words = "An object is used for at most 512 calls after it has been made;"
            + " what later calls answer is free.")
    static void the512thCallAnswers() {
        MarinaBerths x = new MarinaBerths();
        x.addBoat(100, 100, 99);
        x.await(0);
        for (int k = 0; k < 509; k++) {
            x.pass(400);
        }
        due("boat(0, 5) as the 512th call", x.boat(0, 5), 509 * 400 + 99);
    }

    // ---- water

    @Says(promise = 0, words = "There is a table of low waters with 1 to 14 numbers")
    static void tableHasOneToFourteenNumbers() {
        refuses(start(x -> text(x, "")), "setTable() of no number", ARGUMENT, x -> x.setTable());
        does(start(x -> text(x, "7")), "setTable() of 1 number", 1, x -> x.setTable());
        does(start(x -> text(x, FOURTEEN)), "setTable() of 14 numbers", 14, x -> x.setTable());
        refuses(start(x -> text(x, FOURTEEN + ",15")), "setTable() of 15 numbers", ARGUMENT, x -> x.setTable());
    }

    @Says(promise = 0, words = "each from -300 to 300")
    static void lowWatersAreFromMinus300To300() {
        does(start(x -> text(x, "-300")), "setTable() of -300", 1, x -> x.setTable());
        does(start(x -> text(x, "0,300")), "setTable() of 0,300", 2, x -> x.setTable());
        refuses(start(x -> text(x, "-301")), "setTable() of -301", ARGUMENT, x -> x.setTable());
        refuses(start(x -> text(x, "0,301")), "setTable() of 0,301", ARGUMENT, x -> x.setTable());
    }

    @Says(promise = 0, words = "(initially the single number 0)")
    static void tableIsInitiallyTheSingleNumber0() {
        Start empty = MarinaBerths::new;
        tells(empty, "info(13)", 1, x -> x.info(13));
        tells(empty, "info(12)", 0, x -> x.info(12));
        tells(empty, "low(0)", 0, x -> x.low(0));
        tells(empty, "low(2147483647)", 0, x -> x.low(MOST));
    }

    @Says(promise = 0, words = "The low water of day d is the number with the index d modulo (how many there are),"
            + " from 0.")
    static void lowWatersComeRound() {
        Start three = start(x -> table(x, "7,-8,9"));
        tells(three, "low(0)", 7, x -> x.low(0));
        tells(three, "low(2), the last number", 9, x -> x.low(2));
        tells(three, "low(3), the first one again", 7, x -> x.low(3));
        tells(three, "low(5)", 9, x -> x.low(5));
        tells(three, "low(6)", 7, x -> x.low(6));
        // 2147483647 is 1 more than three times 715827882.
        tells(three, "low(2147483647)", -8, x -> x.low(MOST));
        Start fourteen = start(x -> table(x, FOURTEEN));
        tells(fourteen, "low(13), the last of 14", -14, x -> x.low(13));
        tells(fourteen, "low(14), the first of 14 again", 1, x -> x.low(14));
        tells(fourteen, "low(2147483647) of 14", -2, x -> x.low(MOST));
        Start one = start(x -> table(x, "-5"));
        tells(one, "low(1) of 1", -5, x -> x.low(1));
    }

    @Says(promise = 0, words = "The lowest water is the smallest number of the table.")
    static void lowestWaterIsTheSmallestNumber() {
        tells(start(x -> table(x, "-6,5,7")), "the first one", -6, x -> x.info(12));
        tells(start(x -> table(x, "5,7,-6")), "the last one", -6, x -> x.info(12));
        tells(start(x -> table(x, "5,4,7")), "above 0", 4, x -> x.info(12));
        tells(start(x -> table(x, "300,300")), "the greatest that there is", 300, x -> x.info(12));
        tells(start(x -> table(x, "300,-300,300")), "the least that there is", -300, x -> x.info(12));
        tells(start(x -> { table(x, "-300"); table(x, "20,19"); }), "after a lower table", 19, x -> x.info(12));
    }

    // ---- berths and boats

    @Says(promise = 0, words = "There are at most 16 berths, numbered from 0 in the order in which they were added")
    static void atMost16Berths() {
        tells(start(x -> berths(x, true, 1)), "info(6) with 1 berth", 1, x -> x.info(6));
        does(MarinaBerths::new, "the number of the first berth", 0, x -> x.addBerth(50, 30, false, 0));
        does(start(x -> berths(x, true, 15)), "the number of the 16th", 15, x -> x.addBerth(77, 30, false, 0));
        refuses(start(x -> berths(x, true, 16)), "the 17th", STATE, x -> x.addBerth(77, 30, false, 0));
        Start full = start(x -> { berths(x, true, 15); x.addBerth(77, 30, false, 0); });
        tells(full, "the depth of the 16th", 77, x -> x.berth(15, 0));
        tells(full, "the depth of the 15th", 300, x -> x.berth(14, 0));
        tells(full, "the 16th after it was undone", 15, x -> { x.undo(); return x.addBerth(77, 30, false, 0); });
    }

    @Says(promise = 0, words = "a berth has a depth (50 to 900)")
    static void depthOfABerth() {
        does(MarinaBerths::new, "depth 50", 0, x -> x.addBerth(50, 100, false, 0));
        does(MarinaBerths::new, "depth 900", 0, x -> x.addBerth(900, 100, false, 0));
        refuses(MarinaBerths::new, "depth 49", ARGUMENT, x -> x.addBerth(49, 100, false, 0));
        refuses(MarinaBerths::new, "depth 901", ARGUMENT, x -> x.addBerth(901, 100, false, 0));
    }

    @Says(promise = 0, words = ", a length (30 to 400), is exposed or sheltered")
    static void lengthOfABerth() {
        does(MarinaBerths::new, "length 30, exposed", 0, x -> x.addBerth(100, 30, true, 0));
        does(MarinaBerths::new, "length 400, sheltered", 0, x -> x.addBerth(100, 400, false, 0));
        refuses(MarinaBerths::new, "length 29, sheltered", ARGUMENT, x -> x.addBerth(100, 29, false, 0));
        refuses(MarinaBerths::new, "length 401, exposed", ARGUMENT, x -> x.addBerth(100, 401, true, 0));
    }

    @Says(promise = 0, words = "and has a rate (0 to 9999999)")
    static void rateOfABerth() {
        does(MarinaBerths::new, "rate 0", 0, x -> x.addBerth(100, 100, true, 0));
        does(MarinaBerths::new, "rate 9999999", 0, x -> x.addBerth(100, 100, true, 9999999));
        refuses(MarinaBerths::new, "rate -1", ARGUMENT, x -> x.addBerth(100, 100, true, -1));
        refuses(MarinaBerths::new, "rate 10000000", ARGUMENT, x -> x.addBerth(100, 100, true, 10000000));
    }

    @Says(promise = 0, words = "There are at most 20 boats, numbered from 0 in the order in which they were added")
    static void atMost20Boats() {
        does(MarinaBerths::new, "the number of the first boat", 0, x -> x.addBoat(77, 20, 0));
        does(start(x -> boats(x, 19)), "the number of the 20th", 19, x -> x.addBoat(77, 20, 0));
        refuses(start(x -> boats(x, 20)), "the 21st", STATE, x -> x.addBoat(77, 20, 0));
        Start full = start(x -> { boats(x, 19); x.addBoat(77, 20, 0); });
        tells(full, "the length of the 20th", 77, x -> x.boat(19, 0));
        tells(full, "the length of the 19th", 100, x -> x.boat(18, 0));
        tells(full, "the 20th after it was undone", 19, x -> { x.undo(); return x.addBoat(77, 20, 0); });
    }

    @Says(promise = 0, words = "a boat has a length (30 to 400)")
    static void lengthOfABoat() {
        does(MarinaBerths::new, "length 30", 0, x -> x.addBoat(30, 100, 0));
        does(MarinaBerths::new, "length 400", 0, x -> x.addBoat(400, 100, 0));
        refuses(MarinaBerths::new, "length 29", ARGUMENT, x -> x.addBoat(29, 100, 0));
        refuses(MarinaBerths::new, "length 401", ARGUMENT, x -> x.addBoat(401, 100, 0));
    }

    @Says(promise = 0, words = "a draft (20 to 500)")
    static void draftOfABoat() {
        does(MarinaBerths::new, "draft 20", 0, x -> x.addBoat(100, 20, 0));
        does(MarinaBerths::new, "draft 500", 0, x -> x.addBoat(100, 500, 0));
        refuses(MarinaBerths::new, "draft 19", ARGUMENT, x -> x.addBoat(100, 19, 0));
        refuses(MarinaBerths::new, "draft 501", ARGUMENT, x -> x.addBoat(100, 501, 0));
    }

    @Says(promise = 0, words = "and a bonus (0 to 99)")
    static void bonusOfABoat() {
        does(MarinaBerths::new, "bonus 0", 0, x -> x.addBoat(100, 100, 0));
        does(MarinaBerths::new, "bonus 99", 0, x -> x.addBoat(100, 100, 99));
        refuses(MarinaBerths::new, "bonus -1", ARGUMENT, x -> x.addBoat(100, 100, -1));
        refuses(MarinaBerths::new, "bonus 100", ARGUMENT, x -> x.addBoat(100, 100, 100));
    }

    @Says(promise = 0, words = "There is a clearance, 0 to 100 (initially 30).")
    static void clearanceIs0To100() {
        tells(MarinaBerths::new, "the clearance initially", 30, x -> x.info(0));
        does(MarinaBerths::new, "clearance 0", 30, x -> x.set(0, 0));
        does(MarinaBerths::new, "clearance 100", 30, x -> x.set(0, 100));
        refuses(MarinaBerths::new, "clearance -1", ARGUMENT, x -> x.set(0, -1));
        refuses(MarinaBerths::new, "clearance 101", ARGUMENT, x -> x.set(0, 101));
    }

    @Says(promise = 0, words = "A boat fits a berth if its length is at most that of the berth")
    static void boatFitsByLength() {
        Start two = start(x -> { x.addBerth(300, 80, true, 0); x.addBoat(80, 100, 0); x.addBoat(81, 100, 0); });
        tells(two, "just as long", 1, x -> x.fits(0, 0) ? 1 : 0);
        tells(two, "longer by 1", 0, x -> x.fits(1, 0) ? 1 : 0);
    }

    @Says(promise = 0, words = "and its draft plus the clearance at most the depth plus the lowest water.")
    static void boatFitsByDepth() {
        Start two = start(x -> {
            x.addBerth(200, 100, true, 0);
            x.addBerth(199, 100, true, 0);
            x.addBoat(100, 160, 0);
            x.addBoat(100, 161, 0);
            table(x, "50,-10");
        });
        tells(two, "160 + 30 in 200 - 10", 1, x -> x.fits(0, 0) ? 1 : 0);
        tells(two, "1 more draft", 0, x -> x.fits(1, 0) ? 1 : 0);
        tells(two, "1 less depth", 0, x -> x.fits(0, 1) ? 1 : 0);
        tells(then(two, x -> x.set(0, 31)), "1 more clearance", 0, x -> x.fits(0, 0) ? 1 : 0);
        tells(then(two, x -> x.set(0, 29)), "1 less clearance", 1, x -> x.fits(1, 0) ? 1 : 0);
        tells(then(two, x -> table(x, "-11,50")), "1 less water", 0, x -> x.fits(0, 0) ? 1 : 0);
        tells(then(two, x -> table(x, "-9,50")), "1 more water", 1, x -> x.fits(1, 0) ? 1 : 0);
    }

    @Says(promise = 0, words = "Each boat is in one of four states: 0 away (initially), 1 in a berth, 2 waiting,"
            + " 3 ashore.")
    static void fourStates() {
        Start one = start(x -> { berths(x, true, 1); boats(x, 1); });
        Start inBerth = then(one, x -> x.place(0, 0));
        Start waiting = then(one, x -> x.await(0));
        Start ashore = then(inBerth, x -> winter(x));
        tells(one, "initially", 0, x -> x.boat(0, 3));
        tells(inBerth, "in a berth", 1, x -> x.boat(0, 3));
        tells(waiting, "waiting", 2, x -> x.boat(0, 3));
        tells(ashore, "ashore", 3, x -> x.boat(0, 3));
        tells(then(ashore, x -> x.leave(0)), "away again", 0, x -> x.boat(0, 3));
    }

    @Says(promise = 0, words = "In each berth there is at most one boat; a berth without a boat is free.")
    static void atMostOneBoatInABerth() {
        Start one = start(x -> { berths(x, false, 1); boats(x, 2); });
        Start taken = then(one, x -> x.place(1, 0));
        tells(one, "free berths", 1, x -> x.info(8));
        tells(one, "the boat in a free berth", NONE, x -> x.berth(0, 4));
        does(one, "place() into a free berth", NONE, x -> x.place(0, 0));
        tells(taken, "free berths when it is taken", 0, x -> x.info(8));
        tells(taken, "the boat in it", 1, x -> x.berth(0, 4));
        refuses(taken, "a second boat", STATE, x -> x.place(0, 0));
        refuses(then(taken, x -> x.await(0)), "a second boat by offer()", STATE, x -> x.offer(0));
        tells(then(taken, x -> x.leave(1)), "free berths when it is left", 1, x -> x.info(8));
    }

    @Says(promise = 0, words = "A boat that is in a berth may not fit it any more, if the table or the clearance has"
            + " changed; it stays.")
    static void boatStaysWhereItFitsNoMore() {
        Start just = start(x -> { x.addBerth(200, 100, true, 0); x.addBoat(100, 170, 0); x.place(0, 0); });
        Start byTable = then(just, x -> table(x, "-1"));
        Start byClearance = then(just, x -> x.set(0, 31));
        Start aground = then(just, x -> table(x, "-300"));
        tells(just, "whether it fits", 1, x -> x.boat(0, 9));
        for (Start low : new Start[] {byTable, byClearance, aground}) {
            tells(low, "whether it fits any more", 0, x -> x.boat(0, 9));
            tells(low, "its berth", 0, x -> x.boat(0, 4));
            tells(low, "its state", 1, x -> x.boat(0, 3));
            tells(then(low, x -> x.pass(1)), "its berth a day later", 0, x -> x.boat(0, 4));
        }
    }

    @Says(promise = 0, words = "A boat in a berth is aground on a day if its draft is greater than the depth plus the"
            + " low water of this day.")
    static void agroundIfTheDraftIsGreater() {
        Start days = start(x -> {
            x.addBerth(200, 100, true, 0);
            x.addBoat(100, 170, 0);
            x.addBoat(100, 170, 0);
            x.place(0, 0);
            table(x, "-30,-31,300");
        });
        tells(days, "just as much water as draft", 0, x -> x.boat(0, 8));
        tells(then(days, x -> x.pass(1)), "1 less water", 1, x -> x.boat(0, 8));
        tells(then(days, x -> x.pass(1)), "a boat in no berth", 0, x -> x.boat(1, 8));
        tells(then(days, x -> x.pass(2)), "much water", 0, x -> x.boat(0, 8));
        tells(then(days, x -> x.pass(3)), "the first low water again", 0, x -> x.boat(0, 8));
        tells(then(days, x -> x.pass(4)), "the second one again", 1, x -> x.boat(0, 8));
    }

    // ---- waiting

    @Says(promise = 0, words = "A waiting boat has points: the number of days for which it has been waiting, plus its"
            + " bonus.")
    static void pointsAreDaysAndBonus() {
        Start two = start(x -> { x.addBoat(100, 100, 0); x.addBoat(100, 100, 99); x.pass(7); });
        Start waiting = then(two, x -> { x.await(0); x.await(1); });
        tells(two, "of a boat that does not wait", NONE, x -> x.boat(0, 5));
        tells(waiting, "after 0 days without a bonus", 0, x -> x.boat(0, 5));
        tells(waiting, "after 0 days with the greatest bonus", 99, x -> x.boat(1, 5));
        tells(then(waiting, x -> x.pass(1)), "after 1 day", 1, x -> x.boat(0, 5));
        tells(then(waiting, x -> x.pass(400)), "after 400 days", 499, x -> x.boat(1, 5));
        tells(then(waiting, x -> { x.pass(9); x.leave(0); x.await(0); }), "anew", 0, x -> x.boat(0, 5));
    }

    @Says(promise = 0, words = "The order of the waiting list: boats with more points first")
    static void morePointsFirst() {
        Start later = start(x -> {
            x.addBoat(100, 100, 3);
            x.addBoat(100, 100, 7);
            x.await(0);
            x.pass(3);
            x.await(1);
        });
        tells(later, "7 points before 6", 1, x -> x.waiting(0));
        tells(later, "6 points behind 7", 0, x -> x.waiting(1));
    }

    @Says(promise = 0, words = "of equal ones those that began to wait earlier")
    static void ofEqualPointsTheEarlier() {
        Start later = start(x -> {
            x.addBoat(100, 100, 6);
            x.addBoat(100, 100, 3);
            x.await(1);
            x.pass(3);
            x.await(0);
        });
        tells(later, "points of the first", 6, x -> x.boat(0, 5));
        tells(later, "points of the second", 6, x -> x.boat(1, 5));
        tells(later, "waiting(0), the one that began 3 days ago", 1, x -> x.waiting(0));
        tells(later, "waiting(1)", 0, x -> x.waiting(1));
    }

    @Says(promise = 0, words = "(also on the same day)")
    static void alsoOnTheSameDay() {
        Start sameDay = start(x -> { boats(x, 3); x.await(2); x.await(0); x.await(1); });
        tells(sameDay, "waiting(0)", 2, x -> x.waiting(0));
        tells(sameDay, "waiting(1)", 0, x -> x.waiting(1));
        tells(sameDay, "waiting(2)", 1, x -> x.waiting(2));
        Start again = then(sameDay, x -> { x.leave(2); x.await(2); });
        tells(again, "waiting(0) when the first began anew", 0, x -> x.waiting(0));
        tells(again, "waiting(2) when the first began anew", 2, x -> x.waiting(2));
        tells(then(sameDay, x -> x.pass(100)), "waiting(0) after 100 days", 2, x -> x.waiting(0));
    }

    // ---- texts, undo, exceptions

    @Says(promise = 0, words = "The text buffer holds at most 70 characters")
    static void textHoldsAtMost70() {
        changesText(start(x -> typeOften(x, '5', 69)), "the 70th", 70, x -> x.type('5'));
        refuses(start(x -> typeOften(x, '5', 70)), "the 71st", STATE, x -> x.type('5'));
        Start emptied = start(x -> { typeOften(x, '5', 70); x.clearText(); typeOften(x, '5', 69); });
        changesText(emptied, "the 70th after a full text was emptied", 70, x -> x.type('5'));
        refuses(then(emptied, x -> x.type('5')), "the 71st after that", STATE, x -> x.type('5'));
    }

    @Says(promise = 0, words = "with codes from 32 to 126.")
    static void codesAreFrom32To126() {
        changesText(MarinaBerths::new, "type(32)", 1, x -> x.type(32));
        changesText(MarinaBerths::new, "type(126)", 1, x -> x.type(126));
        refuses(MarinaBerths::new, "type(31)", ARGUMENT, x -> x.type(31));
        refuses(MarinaBerths::new, "type(127)", ARGUMENT, x -> x.type(127));
    }

    @Says(promise = 0, words = "As a table it is a sequence of 1 to 14 numbers that are separated by \",\"")
    static void textIsOneToFourteenNumbers() {
        dueFault("", 0);
        dueFault("5", NONE);
        dueFault("5,6", NONE);
        dueFault("5;6", 1);
        dueFault("5 6", 1);
        dueFault(",5", 0);
        dueFault("5,,6", 2);
        dueFault("5,6,", 4);
        dueFault(FOURTEEN, NONE);
        dueFault(FOURTEEN + ",15", FOURTEEN.length());
    }

    @Says(promise = 0, words = "each one is, perhaps after \"-\", 1 to 3 digits")
    static void numberIsOneToThreeDigits() {
        dueFault("-", 1);
        dueFault("0", NONE);
        dueFault("-0", NONE);
        dueFault("9,-9", NONE);
        dueFault("299", NONE);
        dueFault("-299", NONE);
        dueFault("009,-009", NONE);
        dueFault("--9", 1);
        dueFault("+9", 0);
        dueFault("9-", 1);
        // The signs just before "0" and just behind "9".
        dueFault("/", 0);
        dueFault(":", 0);
        dueFault("1/", 1);
        dueFault("1:", 1);
        tells(start(x -> table(x, "009,-012")), "the number of 009", 9, x -> x.low(0));
        tells(start(x -> table(x, "009,-012")), "the number of -012", -12, x -> x.low(1));
    }

    @Says(promise = 0, words = "as long as possible (a fourth digit is not allowed).")
    static void fourthDigitIsNotAllowed() {
        dueFault("123", NONE);
        dueFault("1230", 3);
        dueFault("0000", 3);
        dueFault("-123", NONE);
        dueFault("-1230", 4);
        dueFault("1,-1230,5", 6);
        tells(start(x -> table(x, "123,4")), "three digits are one number", 123, x -> x.low(0));
    }

    @Says(promise = 0, words = "The fault of the text is the index of the first character that is not allowed at its"
            + " place")
    static void faultIsTheFirstCharacterNotAllowed() {
        dueFault("x", 0);
        dueFault("-x", 1);
        dueFault("1x", 1);
        dueFault("12x", 2);
        dueFault("123x", 3);
        dueFault("1,x", 2);
        dueFault("1,-x", 3);
        dueFault("1x,y", 1);
        dueFault("1,2x3,", 3);
        dueFault("1" + " ".repeat(69), 1);
    }

    @Says(promise = 0, words = "(a \",\" behind the 14th number, too)")
    static void commaBehindThe14thNumber() {
        dueFault(FOURTEEN + ",", FOURTEEN.length());
        dueFault(FOURTEEN + "x", FOURTEEN.length());
        String thirteen = FOURTEEN.substring(0, FOURTEEN.lastIndexOf(','));
        dueFault(thirteen, NONE);
        dueFault(thirteen + ",", thirteen.length() + 1);
        // The longest text that is a table has 69 characters, so the 70th can only be a fault.
        String longest = "-300" + ",-300".repeat(13);
        dueFault(longest, NONE);
        dueFault(longest + ",", 69);
    }

    @Says(promise = 0, words = "or the length of the text if it ends too early")
    static void faultOfATextThatEndsTooEarly() {
        dueFault("", 0);
        dueFault("-", 1);
        dueFault("1,", 2);
        dueFault("1,-", 3);
        dueFault("123,45,", 7);
        dueFault("1", NONE);
        dueFault("1,-2", NONE);
    }

    @Says(promise = 0, words = "if there is no such fault, but a number that is not -300 to 300, the index of the"
            + " first character of the first such number")
    static void faultOfANumberOutOfRange() {
        dueFault("300", NONE);
        dueFault("301", 0);
        dueFault("999", 0);
        dueFault("5,300,301", 6);
        dueFault("5,301,302", 2);
        dueFault("400,5,301", 0);
        // What stands behind it may still be such a fault, and that comes first.
        dueFault("301,x", 4);
        dueFault("301,", 4);
        dueFault("301,1234", 7);
        dueFault("301" + ",1".repeat(14), 29);
        dueFault("1" + ",1".repeat(12) + ",301", 26);
    }

    @Says(promise = 0, words = "(perhaps of its \"-\").")
    static void faultIsAtTheMinusOfTheNumber() {
        dueFault("-300", NONE);
        dueFault("-301", 0);
        dueFault("5,-301", 2);
        dueFault("5,-999,301", 2);
    }

    private static void dueFault(String text, int want) {
        Start typed = start(x -> text(x, text));
        tells(typed, "fault() of \"" + text + "\"", want, x -> x.fault());
        if (want == NONE) {
            does(typed, "setTable() of \"" + text + "\"", text.split(",").length, x -> x.setTable());
        } else {
            refuses(typed, "setTable() of \"" + text + "\"", ARGUMENT, x -> x.setTable());
        }
    }

    /** A marina in which every method that is undoable can be called. */
    private static final Start BUSY = start(x -> {
        berths(x, false, 3);
        boats(x, 4);
        x.place(0, 0);
        x.place(1, 1);
        x.await(2);
        x.charge(1, 50);
        text(x, "3,-4");
    });

    @Says(promise = 0, words = "Every method that is marked \"undoable\" records everything but the text, as it was"
            + " before the call, when it ends normally")
    static void undoableMethodsRecord() {
        does(BUSY, "setTable()", 2, x -> x.setTable());
        does(BUSY, "addBerth()", 3, x -> x.addBerth(100, 100, true, 1));
        does(BUSY, "addBoat()", 4, x -> x.addBoat(100, 100, 1));
        does(BUSY, "set(0, 29)", 30, x -> x.set(0, 29));
        does(BUSY, "set(1, 5)", 0, x -> x.set(1, 5));
        does(BUSY, "set(2, 1)", 270, x -> x.set(2, 1));
        does(BUSY, "set(3, 2)", 90, x -> x.set(3, 2));
        does(BUSY, "setRate(1, 7)", 0, x -> x.setRate(1, 7));
        does(BUSY, "place(0, 2)", 0, x -> x.place(0, 2));
        does(BUSY, "leave(0)", 1, x -> x.leave(0));
        does(BUSY, "change(0, 1)", 1, x -> x.change(0, 1));
        does(BUSY, "await(3)", 1, x -> x.await(3));
        does(BUSY, "offer(2)", 2, x -> x.offer(2));
        does(BUSY, "pass(400)", 1, x -> x.pass(400));
        does(BUSY, "pay(1, 20)", 30, x -> x.pay(1, 20));
        does(BUSY, "charge(0, 5)", 5, x -> x.charge(0, 5));
        // The text is what stands in it, not what stood in it.
        MarinaBerths x = BUSY.make();
        x.setTable();
        x.clearText();
        x.type('9');
        x.undo();
        due("length of the text after undo()", x.clearText(), 1);
    }

    @Says(promise = 0, words = "(also if nothing changes).")
    static void recordsAreMadeIfNothingChanges() {
        Start same = then(BUSY, x -> { x.setTable(); x.setRate(0, 6); });
        does(same, "setTable() of the same table", 2, x -> x.setTable());
        does(same, "set(0, 30), as it is", 30, x -> x.set(0, 30));
        does(same, "set(2, 270), as it is", 270, x -> x.set(2, 270));
        does(same, "setRate(0, 6), as it is", 6, x -> x.setRate(0, 6));
        does(same, "charge(0, 0)", 0, x -> x.charge(0, 0));
        Start noOneFits = then(same, x -> x.set(0, 100));
        does(then(noOneFits, x -> { x.addBerth(50, 30, true, 0); }), "offer() to none", NONE, x -> x.offer(3));
    }

    @Says(promise = 0, words = "At most 4 records are kept; when one more is made, the oldest is dropped.")
    static void atMost4Records() {
        Start three = start(x -> { x.set(0, 41); x.set(0, 42); x.set(0, 43); });
        Start four = then(three, x -> x.set(0, 44));
        Start five = then(four, x -> x.set(0, 45));
        due("records left of 3", three.make().undo(), 2);
        due("records left of 4", four.make().undo(), 3);
        due("records left of 5", five.make().undo(), 3);
        due("what the oldest of 4 tells", undone(four, 4).info(0), 30);
        due("what the oldest of 5 tells", undone(five, 4).info(0), 41);
        refuses(() -> undone(four, 4), "the 5th undo() of 4 records", STATE, x -> x.undo());
        refuses(() -> undone(five, 4), "the 5th undo() of 5 calls", STATE, x -> x.undo());
        Start many = start(x -> {
            for (int k = 0; k < 100; k++) {
                x.set(0, k);
            }
        });
        due("what the oldest of 100 tells", undone(many, 4).info(0), 95);
    }

    private static MarinaBerths undone(Start start, int times) {
        MarinaBerths x = start.make();
        for (int k = 0; k < times; k++) {
            x.undo();
        }
        return x;
    }

    @Says(promise = 0, words = "undo() restores the latest one and removes it.")
    static void undoRestoresTheLatest() {
        Start two = start(x -> { x.set(0, 41); x.set(0, 42); });
        due("the clearance after 1 undo()", undone(two, 1).info(0), 41);
        due("the clearance after 2", undone(two, 2).info(0), 30);
        refuses(() -> undone(two, 2), "a third one", STATE, x -> x.undo());
        Start anew = then(() -> undone(two, 1), x -> x.set(0, 43));
        due("the clearance after a call behind undo() was undone", undone(anew, 1).info(0), 41);
        due("the clearance after that", undone(anew, 2).info(0), 30);
    }

    @Says(promise = 0, words = "A call that throws an exception changes nothing.")
    static void refusedCallsChangeNothing() {
        Start faulty = then(BUSY, x -> x.type(','));
        refuses(faulty, "setTable()", ARGUMENT, x -> x.setTable());
        refuses(BUSY, "low(-1)", ARGUMENT, x -> x.low(-1));
        refuses(BUSY, "addBerth(49, ...)", ARGUMENT, x -> x.addBerth(49, 100, true, 0));
        refuses(then(BUSY, x -> berths(x, true, 13)), "addBerth()", STATE, x -> x.addBerth(50, 100, true, 0));
        refuses(BUSY, "addBoat(29, ...)", ARGUMENT, x -> x.addBoat(29, 100, 0));
        refuses(then(BUSY, x -> boats(x, 16)), "addBoat()", STATE, x -> x.addBoat(30, 100, 0));
        refuses(BUSY, "set(0, 101)", ARGUMENT, x -> x.set(0, 101));
        refuses(BUSY, "setRate(3, 0)", INDEX, x -> x.setRate(3, 0));
        refuses(BUSY, "setRate(0, -1)", ARGUMENT, x -> x.setRate(0, -1));
        refuses(BUSY, "berth(3, 0)", INDEX, x -> x.berth(3, 0));
        refuses(BUSY, "berth(0, 7)", ARGUMENT, x -> x.berth(0, 7));
        refuses(BUSY, "boat(4, 0)", INDEX, x -> x.boat(4, 0));
        refuses(BUSY, "boat(0, 10)", ARGUMENT, x -> x.boat(0, 10));
        refuses(BUSY, "fits(4, 0)", INDEX, x -> x.fits(4, 0) ? 1 : 0);
        refuses(BUSY, "info(14)", ARGUMENT, x -> x.info(14));
        refuses(BUSY, "place(2, 3)", INDEX, x -> x.place(2, 3));
        refuses(BUSY, "place(2, 0)", STATE, x -> x.place(2, 0));
        refuses(BUSY, "leave(4)", INDEX, x -> x.leave(4));
        refuses(BUSY, "leave(1), which owes", STATE, x -> x.leave(1));
        refuses(BUSY, "change(0, 4)", INDEX, x -> x.change(0, 4));
        refuses(BUSY, "change(0, 0)", ARGUMENT, x -> x.change(0, 0));
        refuses(BUSY, "change(0, 2)", STATE, x -> x.change(0, 2));
        refuses(BUSY, "await(4)", INDEX, x -> x.await(4));
        refuses(BUSY, "await(2)", STATE, x -> x.await(2));
        refuses(BUSY, "offer(3)", INDEX, x -> x.offer(3));
        refuses(BUSY, "offer(0)", STATE, x -> x.offer(0));
        refuses(BUSY, "bestBerth(4)", INDEX, x -> x.bestBerth(4));
        refuses(BUSY, "pass(0)", ARGUMENT, x -> x.pass(0));
        Start dear = then(BUSY, x -> { x.setRate(1, 1); x.charge(1, MOST - 50 - 25); });
        refuses(dear, "pass(3), the third day being too much", STATE, x -> x.pass(3));
        refuses(BUSY, "pay(4, 1)", INDEX, x -> x.pay(4, 1));
        refuses(BUSY, "pay(1, 51)", ARGUMENT, x -> x.pay(1, 51));
        refuses(BUSY, "charge(4, 1)", INDEX, x -> x.charge(4, 1));
        refuses(BUSY, "charge(1, -1)", ARGUMENT, x -> x.charge(1, -1));
        refuses(BUSY, "charge(1, 2147483647)", STATE, x -> x.charge(1, MOST));
        refuses(BUSY, "owesAfter(4, 1)", INDEX, x -> x.owesAfter(4, 1));
        refuses(BUSY, "owesAfter(1, 0)", ARGUMENT, x -> x.owesAfter(1, 0));
        refuses(BUSY, "groundsIn(4)", INDEX, x -> x.groundsIn(4));
        refuses(BUSY, "winterBerth(4)", INDEX, x -> x.winterBerth(4));
        Start winter = then(BUSY, x -> winter(x));
        refuses(winter, "winterBerth(0) in winter", STATE, x -> x.winterBerth(0));
        refuses(winter, "wouldGoAshore() in winter", STATE, x -> x.wouldGoAshore());
        refuses(BUSY, "missingDepth(4, 0)", INDEX, x -> x.missingDepth(4, 0));
        refuses(BUSY, "type(31)", ARGUMENT, x -> x.type(31));
        refuses(then(BUSY, x -> typeOften(x, '1', 66)), "type() into a full text", STATE, x -> x.type('1'));
        refuses(MarinaBerths::new, "undo()", STATE, x -> x.undo());
    }

    @Says(promise = 0, words = "If several exceptions of a method apply, the one that is listed first is thrown.")
    static void theFirstExceptionIsThrown() {
        Start full = start(x -> { berths(x, false, 16); boats(x, 20); });
        refuses(full, "addBerth(49, ...) as the 17th", ARGUMENT, x -> x.addBerth(49, 100, true, 0));
        refuses(full, "addBoat(29, ...) as the 21st", ARGUMENT, x -> x.addBoat(29, 100, 0));
        refuses(full, "setRate(16, -1)", INDEX, x -> x.setRate(16, -1));
        refuses(full, "berth(16, 7)", INDEX, x -> x.berth(16, 7));
        refuses(full, "boat(20, 10)", INDEX, x -> x.boat(20, 10));
        Start taken = then(full, x -> x.place(0, 0));
        refuses(taken, "place(20, 0) into a berth that is taken", INDEX, x -> x.place(20, 0));
        refuses(taken, "place(0, 16) of a boat in a berth", INDEX, x -> x.place(0, 16));
        refuses(taken, "change(20, 20)", INDEX, x -> x.change(20, 20));
        refuses(taken, "change(1, 20) of a boat in no berth", INDEX, x -> x.change(1, 20));
        refuses(taken, "change(20, 1) with a boat in no berth", INDEX, x -> x.change(20, 1));
        refuses(taken, "change(1, 1) of a boat in no berth", ARGUMENT, x -> x.change(1, 1));
        Start dear = then(taken, x -> { x.charge(0, MOST); x.setRate(0, 1); });
        refuses(dear, "pass(1)", STATE, x -> x.pass(1));
        refuses(dear, "pass(0)", ARGUMENT, x -> x.pass(0));
        refuses(dear, "pass(401), each day being too much", ARGUMENT, x -> x.pass(401));
        refuses(dear, "pay(20, 0)", INDEX, x -> x.pay(20, 0));
        refuses(dear, "charge(20, -1)", INDEX, x -> x.charge(20, -1));
        refuses(dear, "charge(0, -2147483648)", ARGUMENT, x -> x.charge(0, LEAST));
        refuses(dear, "owesAfter(20, 0)", INDEX, x -> x.owesAfter(20, 0));
        refuses(then(full, x -> winter(x)), "winterBerth(20) in winter", INDEX, x -> x.winterBerth(20));
        refuses(start(x -> typeOften(x, '1', 70)), "type(127) into a full text", ARGUMENT, x -> x.type(127));
    }

    @Says(promise = 0, words = {"NONE is returned only if no exception applies.",
            "The constants: NONE = -1: Returned where there is no such thing."})
    static void noneOnlyIfNoExceptionApplies() {
        due("NONE", MarinaBerths.NONE, -1);
        Start taken = start(x -> {
            berths(x, true, 2);
            x.addBoat(100, 100, 0);
            x.addBoat(400, 100, 0);
            x.place(0, 0);
            x.charge(0, MOST);
            x.setRate(0, 1);
        });
        tells(taken, "bestBerth(1)", NONE, x -> x.bestBerth(1));
        refuses(taken, "bestBerth(2)", INDEX, x -> x.bestBerth(2));
        does(taken, "offer(1) with nobody waiting", NONE, x -> x.offer(1));
        refuses(taken, "offer(0) with nobody waiting", STATE, x -> x.offer(0));
        tells(taken, "owesAfter(0, 1), which is too much", NONE, x -> x.owesAfter(0, 1));
        refuses(taken, "owesAfter(0, 0)", ARGUMENT, x -> x.owesAfter(0, 0));
        refuses(taken, "owesAfter(2, 1)", INDEX, x -> x.owesAfter(2, 1));
        tells(taken, "groundsIn(1) of a boat in no berth", NONE, x -> x.groundsIn(1));
        refuses(taken, "groundsIn(2)", INDEX, x -> x.groundsIn(2));
        tells(taken, "missingDepth(1, 1), it being too long", NONE, x -> x.missingDepth(1, 1));
        refuses(taken, "missingDepth(1, 2), it being too long", INDEX, x -> x.missingDepth(1, 2));
        tells(taken, "winterBerth(1) of a boat in no berth", NONE, x -> x.winterBerth(1));
        refuses(then(taken, x -> { x.setRate(0, 0); winter(x); }), "winterBerth(1) in winter", STATE,
                x -> x.winterBerth(1));
        tells(taken, "boat(1, 4)", NONE, x -> x.boat(1, 4));
        refuses(taken, "boat(1, 10)", ARGUMENT, x -> x.boat(1, 10));
    }
}
