import java.math.BigInteger;

/** Promises 30 to 34, sentence by sentence. */
final class EdgesOfTextsAndUndoTest extends Edges {
    private static final Start EMPTY = MarinaBerths::new;

    public static void main(String[] args) {
        hold(EdgesOfTextsAndUndoTest.class);
    }

    // ---- promise 30: type

    @Says(promise = 30, words = "Appends a character to the text.")
    static void typeAppends() {
        changesText(EMPTY, "type('1')", 1, x -> x.type('1'));
        Start typed = start(x -> { x.type('1'); x.type('2'); x.type(','); x.type('-'); x.type('3'); });
        due("length of the text", typed.make().clearText(), 5);
        does(typed, "setTable()", 2, x -> x.setTable());
        tells(then(typed, x -> x.setTable()), "low(0)", 12, x -> x.low(0));
        tells(then(typed, x -> x.setTable()), "low(1)", -3, x -> x.low(1));
        tells(then(typed, x -> x.type('x')), "fault(), the one at the end", 5, x -> x.fault());
        Start anew = then(typed, x -> { x.clearText(); x.type('7'); });
        tells(then(anew, x -> x.setTable()), "low(0) of what was typed anew", 7, x -> x.low(0));
    }

    @Says(promise = 30, words = {"c: its code, 32 to 126", "Throws IllegalArgumentException if c is out of range"})
    static void typeOfACodeFrom32To126() {
        changesText(EMPTY, "type(32)", 1, x -> x.type(32));
        changesText(EMPTY, "type(126)", 1, x -> x.type(126));
        refuses(EMPTY, "type(31)", ARGUMENT, x -> x.type(31));
        refuses(EMPTY, "type(127)", ARGUMENT, x -> x.type(127));
        refuses(EMPTY, "type(0)", ARGUMENT, x -> x.type(0));
        refuses(EMPTY, "type(-1)", ARGUMENT, x -> x.type(-1));
        refuses(EMPTY, "type(233)", ARGUMENT, x -> x.type(233));
        // No code is cut to the size of a char.
        refuses(EMPTY, "type(65536 + 49)", ARGUMENT, x -> x.type(65536 + 49));
        refuses(EMPTY, "type(-2147483648 + 49)", ARGUMENT, x -> x.type(LEAST + 49));
        refuses(EMPTY, "type(2147483647)", ARGUMENT, x -> x.type(MOST));
        for (int code = 32; code <= 126; code++) {
            int c = code;
            boolean digit = c >= '0' && c <= '9';
            tells(start(x -> x.type(c)), "fault() of the code " + c, digit ? NONE : c == '-' ? 1 : 0, x -> x.fault());
        }
    }

    @Says(promise = 30, words = "Returns the length of the text then.")
    static void typeReturnsTheLength() {
        MarinaBerths x = new MarinaBerths();
        for (int k = 1; k <= 70; k++) {
            due("type() number " + k, x.type(' '), k);
        }
        x.clearText();
        due("type() behind clearText()", x.type(' '), 1);
    }

    @Says(promise = 30, words = "Throws IllegalStateException if the text has 70 characters")
    static void typeIntoAFullText() {
        changesText(start(x -> typeOften(x, '1', 69)), "type() behind 69", 70, x -> x.type('1'));
        Start full = start(x -> typeOften(x, '1', 70));
        refuses(full, "type() behind 70", STATE, x -> x.type('1'));
        refuses(full, "type(31) behind 70", ARGUMENT, x -> x.type(31));
        tells(full, "fault() of a full text", 3, x -> x.fault());
        changesText(then(full, x -> x.clearText()), "type() when it was emptied", 1, x -> x.type('1'));
        // 70 characters that are a table up to the last.
        Start table = start(x -> text(x, "-300" + ",-300".repeat(13) + ","));
        tells(table, "fault() at the last of 70", 69, x -> x.fault());
        refuses(table, "type() behind it", STATE, x -> x.type('1'));
    }

    // ---- promise 31: clearText

    @Says(promise = 31, words = "Empties the text.")
    static void clearTextEmpties() {
        Start typed = start(x -> table(x, "1,-2"));
        changesText(typed, "clearText()", 4, x -> x.clearText());
        Start cleared = then(typed, x -> x.clearText());
        tells(cleared, "fault() of the empty text", 0, x -> x.fault());
        refuses(cleared, "setTable() of the empty text", ARGUMENT, x -> x.setTable());
        tells(cleared, "low(1), the table staying", -2, x -> x.low(1));
        changesText(cleared, "type() into the empty text", 1, x -> x.type('8'));
        // Nothing of what stood there counts any more.
        tells(start(x -> { text(x, "-5"); text(x, ""); }), "fault() where a minus stood", 0, x -> x.fault());
        tells(start(x -> { text(x, "1,-2"); text(x, "1,"); }), "fault() where -2 stood", 2, x -> x.fault());
        tells(start(x -> { text(x, "12"); text(x, "-"); }), "fault() where a digit stood", 1, x -> x.fault());
        tells(start(x -> { text(x, "1234"); text(x, "123"); }), "fault() where a 4th one stood", NONE, x -> x.fault());
        // An undo() does not bring it back.
        tells(then(cleared, x -> x.undo()), "fault() after an undo()", 0, x -> x.fault());
    }

    @Says(promise = 31, words = "Returns the length that it had.")
    static void clearTextReturnsTheLength() {
        changesText(EMPTY, "clearText() of an empty text", 0, x -> x.clearText());
        changesText(start(x -> x.type('1')), "clearText() of 1", 1, x -> x.clearText());
        changesText(start(x -> typeOften(x, ' ', 70)), "clearText() of 70", 70, x -> x.clearText());
        tells(start(x -> { x.type('1'); x.clearText(); }), "clearText() twice", 0, x -> x.clearText());
    }

    // ---- promise 32: fault

    @Says(promise = 32, words = "Returns the fault of the text as a table.")
    static void faultOfTheText() {
        tells(start(x -> text(x, "1,2;3")), "fault() of 1,2;3", 3, x -> x.fault());
        tells(start(x -> text(x, "1,2,")), "fault() of 1,2,", 4, x -> x.fault());
        tells(start(x -> text(x, "1,400")), "fault() of 1,400", 2, x -> x.fault());
        // It is the text that has it, not the table that is used.
        tells(start(x -> { table(x, "1,2"); x.type(','); }), "fault() when the text goes on", 4, x -> x.fault());
    }

    @Says(promise = 32, words = "Returns the fault, an index from 0; NONE if there is none.")
    static void faultIsAnIndexFrom0() {
        tells(EMPTY, "fault() of a new object", 0, x -> x.fault());
        tells(start(x -> text(x, "x")), "fault() of x", 0, x -> x.fault());
        tells(start(x -> text(x, "-")), "fault() of -", 1, x -> x.fault());
        tells(start(x -> text(x, "301")), "fault() of 301", 0, x -> x.fault());
        tells(start(x -> text(x, "300")), "fault() of 300", NONE, x -> x.fault());
        String longest = "-300" + ",-300".repeat(13);
        tells(start(x -> text(x, longest)), "fault() of the longest table", NONE, x -> x.fault());
        tells(start(x -> text(x, longest + " ")), "fault() at the greatest index", 69, x -> x.fault());
    }

    // ---- promise 33: undo

    private static final Start THREE = start(x -> { berths(x, true, 1); boats(x, 1); x.place(0, 0); });

    @Says(promise = 33, words = "Restores the latest record and removes it.")
    static void undoRestoresAndRemoves() {
        dueUntouched("set() and undo()", then(THREE, x -> { x.set(0, 40); x.undo(); }), THREE);
        dueUntouched("two calls and two undo()s", then(THREE, x -> { x.leave(0); x.undo(); x.undo(); }),
                start(x -> { berths(x, true, 1); boats(x, 1); }));
        dueUntouched("all undone", then(THREE, x -> { x.undo(); x.undo(); x.undo(); }), EMPTY);
        // Everything comes back: the day, winter, homes, points, bills.
        Start winter = then(THREE, x -> { x.charge(0, 9); winter(x); });
        dueUntouched("a year and undo()", then(start(x -> x.set(2, 1)), x -> { x.pass(400); x.undo(); }),
                start(x -> x.set(2, 1)));
        Start spring = then(winter, x -> x.pass(400));
        tells(then(spring, x -> x.undo()), "home of the boat ashore", 0, x -> x.boat(0, 6));
        tells(then(spring, x -> x.undo()), "its state", 3, x -> x.boat(0, 3));
        tells(then(spring, x -> x.undo()), "whether it is winter", 1, x -> x.info(5));
        tells(then(winter, x -> { x.pay(0, 9); x.undo(); }), "what was paid", 0, x -> x.paid());
        tells(then(winter, x -> { x.pay(0, 9); x.undo(); }), "what is owed", 9, x -> x.owed());
        // Which boat began earlier comes back, too.
        Start list = start(x -> { boats(x, 2); x.await(1); x.await(0); });
        tells(then(list, x -> { x.leave(1); x.undo(); }), "waiting(0)", 1, x -> x.waiting(0));
        Start again = then(list, x -> { x.undo(); x.undo(); x.await(0); x.await(1); });
        tells(again, "waiting(0) when they began the other way round", 0, x -> x.waiting(0));
        // undo() itself makes no record: what it took away is gone.
        dueUntouched("undo() and undo()", then(THREE, x -> { x.undo(); x.undo(); }), start(x -> berths(x, true, 1)));
    }

    @Says(promise = 33, words = "Returns how many records are left.")
    static void undoReturnsHowManyAreLeft() {
        MarinaBerths x = THREE.make();
        due("undo() of 3", x.undo(), 2);
        due("undo() of 2", x.undo(), 1);
        due("undo() of 1", x.undo(), 0);
        MarinaBerths full = start(y -> boats(y, 4)).make();
        due("undo() of 4", full.undo(), 3);
        MarinaBerths more = start(y -> boats(y, 5)).make();
        due("undo() of 4, one being dropped", more.undo(), 3);
        MarinaBerths most = start(y -> boats(y, 20)).make();
        due("undo() of 4, 16 being dropped", most.undo(), 3);
        most.addBoat(100, 100, 0);
        due("undo() when one was made again", most.undo(), 3);
    }

    @Says(promise = 33, words = "Throws IllegalStateException if there is none")
    static void undoWithoutARecord() {
        refuses(EMPTY, "undo() of a new object", STATE, x -> x.undo());
        Start one = start(x -> boats(x, 1));
        due("undo() of 1", one.make().undo(), 0);
        refuses(then(one, x -> x.undo()), "undo() of none left", STATE, x -> x.undo());
        Start five = start(x -> boats(x, 5));
        Start undone = then(five, x -> { x.undo(); x.undo(); x.undo(); x.undo(); });
        refuses(undone, "the 5th undo() of 5 calls", STATE, x -> x.undo());
        tells(undone, "boats then", 1, x -> x.info(7));
        Start typed = start(x -> { text(x, "1,2"); x.info(0); x.wouldGoAshore(); x.checksum(); });
        refuses(typed, "undo() behind calls that are not undoable", STATE, x -> x.undo());
        refuses(start(x -> refusedPass(x)), "undo() behind a call that was refused", STATE, x -> x.undo());
    }

    private static void refusedPass(MarinaBerths x) {
        try {
            x.pass(0);
        } catch (IllegalArgumentException asDue) {
            return;
        }
    }

    // ---- promise 34: checksum

    @Says(promise = 34, words = {"Computes a checksum. It starts with h = 43079, and for each of the following"
            + " numbers v, in order, h becomes 31 * h + v (long arithmetic that wraps):", "Returns the checksum."})
    static void checksumStartsAndWraps() {
        // The 14 numbers of info(), low(0), owed(), paid(), the length of the text, the number of records.
        dueSum(EMPTY, 30, 0, 270, 90, 0, 0, 0, 0, 0, 0, 0, 0, 0, 1, 0, 0, 0, 0, 0);
        tells(EMPTY, "checksum()", -8467623995398865142L, x -> x.checksum());
    }

    @Says(promise = 34, words = "info() for 0 to 13")
    static void checksumOfInfo() {
        Start set = start(x -> { x.set(0, 100); x.set(1, 9999999); x.set(2, 7); x.set(3, 9); x.pass(7); });
        dueSum(set, 100, 9999999, 7, 9, 7, 1, 0, 0, 0, 0, 0, 0, 0, 1, 0, 0, 0, 0, 4);
    }

    @Says(promise = 34, words = "low() for the days 0 to (how many numbers the table has) - 1")
    static void checksumOfTheTable() {
        Start fourteen = start(x -> table(x, "1,-2,3,-4,5,-6,7,-8,9,-10,11,-12,13,-300"));
        dueSum(fourteen, 30, 0, 270, 90, 0, 0, 0, 0, 0, 0, 0, 0, -300, 14,
                1, -2, 3, -4, 5, -6, 7, -8, 9, -10, 11, -12, 13, -300, 0, 0, 40, 1);
        // From day 0 on, whatever day it is.
        Start two = start(x -> { table(x, "-8,9"); x.pass(1); });
        dueSum(two, 30, 0, 270, 90, 1, 0, 0, 0, 0, 0, 0, 0, -8, 2, -8, 9, 0, 0, 4, 2);
    }

    @Says(promise = 34, words = "for each berth the results of berth() for 0 to 6")
    static void checksumOfBerths() {
        Start two = start(x -> { x.addBerth(60, 40, true, 5); x.addBerth(900, 400, false, 9999999); });
        dueSum(two, 30, 0, 270, 90, 0, 0, 2, 0, 2, 0, 0, 0, 0, 1, 0,
                60, 40, 1, 5, NONE, 60, 0,
                900, 400, 0, 9999999, NONE, 900, 0,
                0, 0, 0, 2);
    }

    @Says(promise = 34, words = "for each boat those of boat() for 0 to 9, bestBerth() and groundsIn()")
    static void checksumOfBoats() {
        Start two = start(x -> { x.addBoat(60, 40, 5); x.addBoat(400, 500, 99); });
        dueSum(two, 30, 0, 270, 90, 0, 0, 0, 2, 0, 0, 0, 0, 0, 1, 0,
                60, 40, 5, 0, NONE, NONE, NONE, 0, 0, 1, NONE, NONE,
                400, 500, 99, 0, NONE, NONE, NONE, 0, 0, 1, NONE, NONE,
                0, 0, 0, 2);
        // Boat 0 is aground in berth 0 today and pays; boat 1 might go into berth 1.
        Start berths = start(x -> {
            x.addBerth(200, 100, false, 10);
            x.addBerth(300, 100, false, 0);
            x.addBoat(100, 170, 3);
            x.addBoat(100, 100, 0);
            x.place(0, 0);
            table(x, "-30,-31");
            x.pass(1);
            x.pay(0, 40);
        });
        dueSum(berths, 30, 0, 270, 90, 1, 0, 2, 2, 1, 0, 0, 1, -31, 2, -30, -31,
                200, 100, 0, 10, 0, 169, 1,
                300, 100, 0, 0, NONE, 269, 2,
                100, 170, 3, 1, 0, NONE, NONE, 60, 1, 0, 1, 0,
                100, 100, 0, 0, NONE, NONE, NONE, 0, 0, 1, 1, NONE,
                60, 40, 7, 4);
    }

    @Says(promise = 34, words = "the boats of the waiting list in their order")
    static void checksumOfTheWaitingList() {
        Start three = start(x -> {
            x.addBoat(60, 40, 5);
            x.addBoat(60, 40, 6);
            x.addBoat(60, 40, 5);
            x.await(2);
            x.await(0);
            x.await(1);
        });
        dueSum(three, 30, 0, 270, 90, 0, 0, 0, 3, 0, 3, 0, 0, 0, 1, 0,
                60, 40, 5, 2, NONE, 5, NONE, 0, 0, 1, NONE, NONE,
                60, 40, 6, 2, NONE, 6, NONE, 0, 0, 1, NONE, NONE,
                60, 40, 5, 2, NONE, 5, NONE, 0, 0, 1, NONE, NONE,
                1, 2, 0,
                0, 0, 0, 4);
    }

    @Says(promise = 34, words = "owed(); paid()")
    static void checksumOfOwedAndPaid() {
        // Both sums are more than an int.
        Start three = start(x -> {
            x.addBoat(60, 40, 5);
            x.addBoat(60, 40, 5);
            x.charge(0, MOST);
            x.charge(1, MOST);
            x.pay(0, MOST);
            x.pay(1, MOST);
            x.charge(0, MOST);
            x.charge(1, MOST);
        });
        dueSum(three, 30, 0, 270, 90, 0, 0, 0, 2, 0, 0, 0, 0, 0, 1, 0,
                60, 40, 5, 0, NONE, NONE, NONE, MOST, 0, 1, NONE, NONE,
                60, 40, 5, 0, NONE, NONE, NONE, MOST, 0, 1, NONE, NONE,
                4294967294L, 4294967294L, 0, 4);
    }

    @Says(promise = 34, words = "the length of the text")
    static void checksumOfTheTextsLength() {
        dueSum(start(x -> x.type('x')), 30, 0, 270, 90, 0, 0, 0, 0, 0, 0, 0, 0, 0, 1, 0, 0, 0, 1, 0);
        dueSum(start(x -> typeOften(x, ' ', 70)), 30, 0, 270, 90, 0, 0, 0, 0, 0, 0, 0, 0, 0, 1, 0, 0, 0, 70, 0);
        Start cleared = start(x -> { x.type('x'); x.clearText(); });
        dueSum(cleared, 30, 0, 270, 90, 0, 0, 0, 0, 0, 0, 0, 0, 0, 1, 0, 0, 0, 0, 0);
    }

    @Says(promise = 34, words = "the number of records.")
    static void checksumOfTheNumberOfRecords() {
        for (int k = 0; k <= 6; k++) {
            int calls = k;
            Start same = start(x -> {
                for (int call = 0; call < calls; call++) {
                    x.set(0, 30);
                }
            });
            dueSum(same, 30, 0, 270, 90, 0, 0, 0, 0, 0, 0, 0, 0, 0, 1, 0, 0, 0, 0, Math.min(4, k));
        }
        Start undone = start(x -> { x.set(0, 30); x.set(0, 30); x.undo(); });
        dueSum(undone, 30, 0, 270, 90, 0, 0, 0, 0, 0, 0, 0, 0, 0, 1, 0, 0, 0, 0, 1);
    }

    private static void dueSum(Start start, long... numbers) {
        BigInteger h = BigInteger.valueOf(43079);
        for (long v : numbers) {
            h = h.multiply(BigInteger.valueOf(31)).add(BigInteger.valueOf(v));
        }
        tells(start, "checksum()", h.longValue(), x -> x.checksum());
    }
}
