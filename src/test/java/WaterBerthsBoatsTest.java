/** Promises 1 to 11. */
final class WaterBerthsBoatsTest {
    private static final int NONE = MarinaBerths.NONE;

    public static void main(String[] args) {
        newObject();
        setTable();
        low();
        addBerth();
        addBoat();
        set();
        setRate();
        berth();
        boat();
        boatInWinter();
        fits();
        info();
        Checks.finish("WaterBerthsBoatsTest");
    }

    private static void newObject() {
        MarinaBerths x = new MarinaBerths();
        int[] start = {30, 0, 270, 90, 0, 0, 0, 0, 0, 0, 0, 0, 0, 1};
        for (int what = 0; what < start.length; what++) {
            Checks.due("info(" + what + ") of a new object", x.info(what), start[what]);
        }
        Checks.due("low(5) of a new object", x.low(5), 0);
        Checks.due("owed() of a new object", x.owed(), 0);
        Checks.due("paid() of a new object", x.paid(), 0);
        Checks.due("waiting(0) of a new object", x.waiting(0), NONE);
        Checks.due("clearText() of a new object", x.clearText(), 0);
        Checks.refused("undo() of a new object", x, Checks.STATE, x::undo);
        MarinaBerths other = new MarinaBerths();
        x.addBerth(100, 100, false, 1);
        Checks.due("another object has berths of its own", other.info(6), 0);
    }

    private static void setTable() {
        MarinaBerths x = new MarinaBerths();
        Checks.refused("setTable() of an empty text", x, Checks.ARGUMENT, x::setTable);
        Checks.type(x, "-5,20,0");
        Checks.undoable("setTable()", x, 3, x::setTable);
        Checks.due("lowest", x.info(12), -5);
        Checks.due("how many", x.info(13), 3);
        Checks.due("the text stays", x.fault(), NONE);
        Checks.due("its length, too", x.clearText(), 7);
        Checks.due("the table does not change with the text", x.low(1), 20);
        Checks.type(x, "1,2,");
        Checks.refused("setTable() of a text with a fault", x, Checks.ARGUMENT, x::setTable);
        Checks.type(x, "301");
        Checks.refused("setTable() with 301", x, Checks.ARGUMENT, x::setTable);
        Checks.setTable(x, "300");
        Checks.due("the table is replaced, not appended to", x.info(13), 1);
        Checks.due("the lowest water rises, too", x.info(12), 300);
        Checks.type(x, "1,-2,3,-4,5,-6,7,-8,9,-10,11,-12,13,-300");
        Checks.undoable("setTable() with 14 numbers", x, 14, x::setTable);
        Checks.due("low(13)", x.low(13), -300);
        Checks.due("low(12)", x.low(12), 13);
        Checks.undoable("a record of 14 numbers", x, 0, () -> x.pass(1));
    }

    private static void low() {
        MarinaBerths x = new MarinaBerths();
        Checks.setTable(x, "7,-8,9");
        int[] lows = {7, -8, 9};
        for (int day = 0; day < 12; day++) {
            int of = day;
            Checks.onlyTold("low(" + day + ")", x, lows[day % 3], () -> x.low(of));
        }
        // 2147483647 is 1 modulo 3.
        Checks.due("low(2147483647)", x.low(2147483647), -8);
        Checks.refused("low(-1)", x, Checks.ARGUMENT, () -> x.low(-1));
        Checks.refused("low(-2147483648)", x, Checks.ARGUMENT, () -> x.low(-2147483648));
        x.pass(1);
        Checks.due("low(0) on day 1", x.low(0), 7);
    }

    private static void addBerth() {
        MarinaBerths x = new MarinaBerths();
        Checks.undoable("addBerth of the least", x, 0, () -> x.addBerth(50, 30, false, 0));
        Checks.undoable("addBerth of the greatest", x, 1, () -> x.addBerth(900, 400, true, 9999999));
        Checks.due("it is free", x.berth(1, 4), NONE);
        refuseBerths(x, Checks.ARGUMENT);
        for (int k = 2; k < 16; k++) {
            Checks.due("addBerth " + k, x.addBerth(100 + k, 200, k % 2 == 0, k), k);
        }
        Checks.refused("the 17th berth", x, Checks.STATE, () -> x.addBerth(100, 100, false, 0));
        refuseBerths(x, Checks.ARGUMENT);
        Checks.due("how many", x.info(6), 16);
        for (int k = 2; k < 16; k++) {
            Checks.due("its depth", x.berth(k, 0), 100 + k);
            Checks.due("whether it is exposed", x.berth(k, 2), k % 2 == 0 ? 1 : 0);
            Checks.due("its rate", x.berth(k, 3), k);
        }
    }

    private static void refuseBerths(MarinaBerths x, Class<?> why) {
        Checks.refused("depth 49", x, why, () -> x.addBerth(49, 30, false, 0));
        Checks.refused("depth 901", x, why, () -> x.addBerth(901, 30, false, 0));
        Checks.refused("length 29", x, why, () -> x.addBerth(50, 29, false, 0));
        Checks.refused("length 401", x, why, () -> x.addBerth(50, 401, false, 0));
        Checks.refused("rate -1", x, why, () -> x.addBerth(50, 30, false, -1));
        Checks.refused("rate 10000000", x, why, () -> x.addBerth(50, 30, false, 10000000));
        Checks.refused("the least int", x, why, () -> x.addBerth(-2147483648, 30, true, 0));
    }

    private static void addBoat() {
        MarinaBerths x = new MarinaBerths();
        Checks.undoable("addBoat of the least", x, 0, () -> x.addBoat(30, 20, 0));
        Checks.undoable("addBoat of the greatest", x, 1, () -> x.addBoat(400, 500, 99));
        refuseBoats(x);
        for (int k = 2; k < 20; k++) {
            Checks.due("addBoat " + k, x.addBoat(30 + k, 40 + k, k), k);
        }
        Checks.refused("the 21st boat", x, Checks.STATE, () -> x.addBoat(30, 20, 0));
        refuseBoats(x);
        Checks.due("how many", x.info(7), 20);
        for (int k = 2; k < 20; k++) {
            int[] facts = {30 + k, 40 + k, k, 0, NONE, NONE, NONE, 0, 0, 1};
            for (int what = 0; what < facts.length; what++) {
                Checks.due("boat(" + k + ", " + what + ") of a new boat", x.boat(k, what), facts[what]);
            }
        }
        boatAddedWhereOneWasUndone();
    }

    private static void refuseBoats(MarinaBerths x) {
        Checks.refused("length 29", x, Checks.ARGUMENT, () -> x.addBoat(29, 20, 0));
        Checks.refused("length 401", x, Checks.ARGUMENT, () -> x.addBoat(401, 20, 0));
        Checks.refused("draft 19", x, Checks.ARGUMENT, () -> x.addBoat(30, 19, 0));
        Checks.refused("draft 501", x, Checks.ARGUMENT, () -> x.addBoat(30, 501, 0));
        Checks.refused("bonus -1", x, Checks.ARGUMENT, () -> x.addBoat(30, 20, -1));
        Checks.refused("bonus 100", x, Checks.ARGUMENT, () -> x.addBoat(30, 20, 100));
    }

    private static void boatAddedWhereOneWasUndone() {
        MarinaBerths x = new MarinaBerths();
        x.addBerth(300, 100, false, 0);
        x.addBoat(50, 50, 5);
        x.place(0, 0);
        x.charge(0, 9);
        x.undo();
        x.undo();
        x.undo();
        Checks.due("the number is given again", x.addBoat(60, 60, 6), 0);
        int[] facts = {60, 60, 6, 0, NONE, NONE, NONE, 0, 0, 1};
        for (int what = 0; what < facts.length; what++) {
            Checks.due("boat(0, " + what + ") of the boat that was added again", x.boat(0, what), facts[what]);
        }
        Checks.due("the berth is free", x.berth(0, 4), NONE);
    }

    private static void set() {
        MarinaBerths x = new MarinaBerths();
        Checks.undoable("set(0, 100)", x, 30, () -> x.set(0, 100));
        x.set(0, 0);
        Checks.refused("set(0, 101)", x, Checks.ARGUMENT, () -> x.set(0, 101));
        Checks.refused("set(0, -1)", x, Checks.ARGUMENT, () -> x.set(0, -1));
        Checks.undoable("set(1, 9999999)", x, 0, () -> x.set(1, 9999999));
        Checks.due("set(1, 0)", x.set(1, 0), 9999999);
        Checks.refused("set(1, 10000000)", x, Checks.ARGUMENT, () -> x.set(1, 10000000));
        Checks.refused("set(1, -1)", x, Checks.ARGUMENT, () -> x.set(1, -1));
        Checks.refused("set(2, 90), the first day of spring", x, Checks.ARGUMENT, () -> x.set(2, 90));
        Checks.refused("set(3, 270), the first day of winter", x, Checks.ARGUMENT, () -> x.set(3, 270));
        Checks.undoable("set(2, 359)", x, 270, () -> x.set(2, 359));
        Checks.undoable("set(3, 0)", x, 90, () -> x.set(3, 0));
        Checks.refused("set(2, 360)", x, Checks.ARGUMENT, () -> x.set(2, 360));
        Checks.refused("set(2, -1)", x, Checks.ARGUMENT, () -> x.set(2, -1));
        Checks.refused("set(3, 360)", x, Checks.ARGUMENT, () -> x.set(3, 360));
        Checks.refused("set(3, -1)", x, Checks.ARGUMENT, () -> x.set(3, -1));
        Checks.due("the same value once more", x.set(2, 359), 359);
        Checks.due("set(2, 0) once spring has left it", x.set(3, 270) + x.set(2, 0), 359);
        Checks.refused("set(4, 1)", x, Checks.ARGUMENT, () -> x.set(4, 1));
        Checks.refused("set(-1, 1)", x, Checks.ARGUMENT, () -> x.set(-1, 1));
        int[] set = {0, 0, 0, 270};
        for (int what = 0; what < set.length; what++) {
            Checks.due("info(" + what + ")", x.info(what), set[what]);
        }
    }

    private static void setRate() {
        MarinaBerths x = new MarinaBerths();
        x.addBerth(200, 100, false, 7);
        x.addBerth(200, 100, false, 8);
        Checks.undoable("setRate(1, 9999999)", x, 8, () -> x.setRate(1, 9999999));
        Checks.undoable("setRate(1, 0)", x, 9999999, () -> x.setRate(1, 0));
        Checks.due("the other rate stays", x.berth(0, 3), 7);
        Checks.refused("setRate(0, -1)", x, Checks.ARGUMENT, () -> x.setRate(0, -1));
        Checks.refused("setRate(0, 10000000)", x, Checks.ARGUMENT, () -> x.setRate(0, 10000000));
        Checks.refused("setRate(2, -1)", x, Checks.INDEX, () -> x.setRate(2, -1));
        Checks.refused("setRate(-1, 5)", x, Checks.INDEX, () -> x.setRate(-1, 5));
    }

    private static void berth() {
        MarinaBerths x = new MarinaBerths();
        x.addBerth(200, 100, true, 7);
        x.addBerth(150, 80, false, 8);
        x.addBoat(100, 160, 0);
        x.addBoat(101, 20, 0);
        x.addBoat(80, 110, 0);
        x.place(2, 1);
        Checks.setTable(x, "5,-10");
        int[] first = {200, 100, 1, 7, NONE, 190, 2};
        int[] second = {150, 80, 0, 8, 2, 140, 1};
        for (int what = 0; what < first.length; what++) {
            int of = what;
            Checks.onlyTold("berth(0, " + what + ")", x, first[what], () -> x.berth(0, of));
            Checks.onlyTold("berth(1, " + what + ")", x, second[what], () -> x.berth(1, of));
        }
        x.set(0, 31);
        Checks.due("boats that fit, with more clearance", x.berth(0, 6) + x.berth(1, 6), 1);
        Checks.due("a boat that does not fit any more stays", x.berth(1, 4), 2);
        Checks.refused("berth(2, 7)", x, Checks.INDEX, () -> x.berth(2, 7));
        Checks.refused("berth(-1, 0)", x, Checks.INDEX, () -> x.berth(-1, 0));
        Checks.refused("berth(0, 7)", x, Checks.ARGUMENT, () -> x.berth(0, 7));
        Checks.refused("berth(0, -1)", x, Checks.ARGUMENT, () -> x.berth(0, -1));
    }

    private static void boat() {
        MarinaBerths x = new MarinaBerths();
        x.addBerth(200, 100, true, 7);
        x.addBoat(100, 170, 3);
        x.addBoat(50, 60, 99);
        x.place(0, 0);
        x.await(1);
        x.pass(2);
        dueBoat(x, 0, 100, 170, 3, 1, 0, NONE, NONE, 140, 0, 1);
        dueBoat(x, 1, 50, 60, 99, 2, NONE, 101, NONE, 0, 0, 1);
        Checks.setTable(x, "0,0,-31,-30");
        dueBoat(x, 0, 100, 170, 3, 1, 0, NONE, NONE, 140, 1, 0);
        x.pass(1);
        Checks.due("aground only if the draft is greater than the water", x.boat(0, 8), 0);
        Checks.refused("boat(2, 10)", x, Checks.INDEX, () -> x.boat(2, 10));
        Checks.refused("boat(-1, 0)", x, Checks.INDEX, () -> x.boat(-1, 0));
        Checks.refused("boat(0, 10)", x, Checks.ARGUMENT, () -> x.boat(0, 10));
        Checks.refused("boat(0, -1)", x, Checks.ARGUMENT, () -> x.boat(0, -1));
    }

    private static void boatInWinter() {
        MarinaBerths x = new MarinaBerths();
        x.addBerth(200, 100, true, 0);
        x.addBerth(200, 100, false, 0);
        x.addBoat(100, 100, 3);
        x.addBoat(100, 100, 4);
        x.place(0, 0);
        x.set(2, 1);
        x.pass(1);
        dueBoat(x, 0, 100, 100, 3, 1, 1, NONE, 0, 0, 0, 1);
        x.set(2, 2);
        x.set(3, 2 + 1);
        x.pass(2);
        Checks.due("home again", x.boat(0, 4), 0);
        x.place(1, 1);
        x.set(2, 4);
        x.pass(1);
        dueBoat(x, 0, 100, 100, 3, 3, NONE, NONE, 0, 0, 0, 1);
        dueBoat(x, 1, 100, 100, 4, 1, 1, NONE, NONE, 0, 0, 1);
    }

    private static void dueBoat(MarinaBerths x, int boat, int... facts) {
        for (int what = 0; what < facts.length; what++) {
            int of = what;
            Checks.onlyTold("boat(" + boat + ", " + what + ")", x, facts[what], () -> x.boat(boat, of));
        }
    }

    private static void fits() {
        MarinaBerths x = new MarinaBerths();
        x.addBerth(200, 100, true, 7);
        x.addBoat(100, 170, 0);
        x.addBoat(101, 20, 0);
        x.addBoat(30, 171, 0);
        Checks.onlyTold("a boat that just fits", x, 1, () -> x.fits(0, 0) ? 1 : 0);
        Checks.due("a boat that is too long", x.fits(1, 0), false);
        Checks.due("a boat with too much draft", x.fits(2, 0), false);
        Checks.setTable(x, "1,1");
        Checks.due("with more water", x.fits(2, 0), true);
        Checks.setTable(x, "50,-1,50");
        Checks.due("the lowest water counts, not that of today", x.fits(0, 0), false);
        x.set(0, 29);
        Checks.due("with less clearance", x.fits(0, 0), true);
        Checks.due("also in a berth in which another boat is", x.place(0, 0) == NONE && x.fits(0, 0), true);
        Checks.refused("no such boat", x, Checks.INDEX, () -> x.fits(3, 0) ? 1 : 0);
        Checks.refused("boat -1", x, Checks.INDEX, () -> x.fits(-1, 0) ? 1 : 0);
        Checks.refused("no such berth", x, Checks.INDEX, () -> x.fits(0, 1) ? 1 : 0);
        Checks.refused("berth -1", x, Checks.INDEX, () -> x.fits(0, -1) ? 1 : 0);
    }

    private static void info() {
        MarinaBerths x = new MarinaBerths();
        for (int k = 0; k < 4; k++) {
            x.addBerth(200, 100, k < 2, 0);
        }
        for (int k = 0; k < 6; k++) {
            x.addBoat(100, 100 + 10 * k, 0);
        }
        for (int k = 0; k < 4; k++) {
            x.place(k, k);
        }
        x.await(4);
        x.set(1, 5);
        x.set(2, 2);
        x.pass(2);
        x.leave(2);
        Checks.setTable(x, "0,0,-80,-100");
        int[] facts = {30, 5, 2, 90, 2, 1, 4, 6, 3, 1, 2, 1, -100, 4};
        for (int what = 0; what < facts.length; what++) {
            int of = what;
            Checks.onlyTold("info(" + what + ")", x, facts[what], () -> x.info(of));
        }
        Checks.setTable(x, "0");
        x.place(0, 2);
        x.leave(3);
        Checks.setTable(x, "0,0,-101,-100");
        Checks.due("boats aground, the first one being so", x.info(11), 1);
        Checks.refused("info(14)", x, Checks.ARGUMENT, () -> x.info(14));
        Checks.refused("info(-1)", x, Checks.ARGUMENT, () -> x.info(-1));
    }
}
