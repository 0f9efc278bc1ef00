/** Promises 30 to 34. */
final class TextsAndUndoTest {
    private static final int NONE = MarinaBerths.NONE;

    public static void main(String[] args) {
        type();
        clearText();
        fault();
        undo();
        undoLeavesTheText();
        checksum();
        Checks.finish("TextsAndUndoTest");
    }

    private static void type() {
        MarinaBerths x = new MarinaBerths();
        Checks.refused("type(31)", x, Checks.ARGUMENT, () -> x.type(31));
        Checks.refused("type(127)", x, Checks.ARGUMENT, () -> x.type(127));
        Checks.refused("type(65536 + 49)", x, Checks.ARGUMENT, () -> x.type(65536 + 49));
        Checks.refused("type(-1)", x, Checks.ARGUMENT, () -> x.type(-1));
        Checks.due("type(32)", x.type(32), 1);
        Checks.due("type(126)", x.type(126), 2);
        for (int k = 3; k <= 70; k++) {
            Checks.due("type(49)", x.type(49), k);
        }
        Checks.refused("the 71st character", x, Checks.STATE, () -> x.type(49));
        Checks.refused("out of range comes first", x, Checks.ARGUMENT, () -> x.type(200));
        Checks.refused("no record was made", x, Checks.STATE, x::undo);
    }

    private static void clearText() {
        MarinaBerths x = new MarinaBerths();
        Checks.due("clearText() of an empty text", x.clearText(), 0);
        Checks.type(x, "12,13");
        Checks.due("clearText()", x.clearText(), 5);
        Checks.due("it is empty", x.clearText(), 0);
        Checks.due("typing begins anew", x.type('7'), 1);
        Checks.due("the new text", x.fault(), NONE);
        x.setTable();
        Checks.due("the new number", x.low(0), 7);
        x.undo();
        Checks.refused("no record was made but by setTable()", x, Checks.STATE, x::undo);
    }

    private static void fault() {
        dueFault("", 0);
        dueFault("-", 1);
        dueFault("--1", 1);
        dueFault("5", NONE);
        dueFault("-0", NONE);
        dueFault("000", NONE);
        dueFault("007,-08", NONE);
        dueFault(" 5", 0);
        dueFault("5 ", 1);
        dueFault("+5", 0);
        dueFault("5-", 1);
        dueFault("1.5", 1);
        dueFault("5/", 1);
        dueFault("5:", 1);
        dueFault(",", 0);
        dueFault("1,", 2);
        dueFault("1,-", 3);
        dueFault("1,,2", 2);
        dueFault("1234", 3);
        dueFault("0001", 3);
        dueFault("-1234", 4);
        dueFault("300,-300", NONE);
        dueFault("300,-301", 4);
        dueFault("301", 0);
        dueFault("5,999,-301", 2);
        dueFault("999,", 4);
        dueFault("999,5x", 5);
        dueFault("301,1234", 7);
        dueFault("1,2,3,4,5,6,7,8,9,10,11,12,13,14", NONE);
        dueFault("1,2,3,4,5,6,7,8,9,10,11,12,13,14,", 32);
        dueFault("1,2,3,4,5,6,7,8,9,10,11,12,13,14,15", 32);
        dueFault("1,2,3,4,5,6,7,8,9,10,11,12,13,914,", 33);
        dueFault("1,2,3,4,5,6,7,8,9,10,11,12,13,914", 30);
        dueFault("1,2,3,4,5,6,7,8,9,10,11,12,13,", 30);
        String longest = "-300,-300,-300,-300,-300,-300,-300,-300,-300,-300,-300,-300,-300,-300";
        dueFault(longest, NONE);
        dueFault(longest + ",", 69);
        dueFault(longest + "0", 69);
    }

    private static void dueFault(String text, int want) {
        MarinaBerths x = new MarinaBerths();
        Checks.type(x, text);
        Checks.onlyTold("fault() of \"" + text + "\"", x, want, x::fault);
        if (want != NONE) {
            Checks.refused("setTable() of \"" + text + "\"", x, Checks.ARGUMENT, x::setTable);
            return;
        }
        String[] numbers = text.split(",");
        Checks.due("setTable() of \"" + text + "\"", x.setTable(), numbers.length);
        for (int day = 0; day < numbers.length; day++) {
            Checks.due("low(" + day + ") of \"" + text + "\"", x.low(day), Integer.parseInt(numbers[day]));
        }
    }

    private static void undo() {
        MarinaBerths x = new MarinaBerths();
        Checks.refused("undo() without records", x, Checks.STATE, x::undo);
        for (int k = 0; k < 6; k++) {
            x.set(0, 40 + k);
        }
        for (int k = 3; k >= 0; k--) {
            Checks.due("undo()", x.undo(), k);
            Checks.due("the clearance then", x.info(0), 41 + k);
        }
        Checks.refused("the oldest records were dropped", x, Checks.STATE, x::undo);
        x.set(0, 90);
        x.set(0, 91);
        Checks.due("undo()", x.undo(), 1);
        x.set(0, 92);
        Checks.due("undo() of a call after an undo()", x.undo(), 1);
        Checks.due("the clearance of the record", x.info(0), 90);
        Checks.due("the last undo()", x.undo(), 0);
        Checks.due("the clearance of the last record", x.info(0), 41);
    }

    private static void undoLeavesTheText() {
        MarinaBerths x = new MarinaBerths();
        x.set(0, 40);
        Checks.type(x, "1,2");
        x.setTable();
        x.type(',');
        x.undo();
        Checks.due("the table is back", x.info(13), 1);
        Checks.due("the text is not", x.fault(), 4);
        x.type('3');
        Checks.due("setTable() again", x.setTable(), 3);
    }

    private static void checksum() {
        MarinaBerths x = new MarinaBerths();
        dueChecksum(x, 0, 0);
        x.addBerth(200, 100, true, 7);
        x.addBerth(250, 120, false, 9);
        x.addBoat(100, 120, 3);
        x.addBoat(90, 110, 4);
        x.addBoat(80, 100, 9);
        dueChecksum(x, 0, 4);
        x.place(0, 0);
        x.await(1);
        x.await(2);
        Checks.setTable(x, "-5,-90,-150,8");
        x.pass(33);
        x.pay(0, 1000);
        dueChecksum(x, 13, 4);
        x.undo();
        dueChecksum(x, 13, 3);
        x.pass(260);
        x.type('%');
        dueChecksum(x, 14, 4);
    }

    private static void dueChecksum(MarinaBerths x, int length, int records) {
        long h = 43079;
        for (int what = 0; what <= 13; what++) {
            h = 31 * h + x.info(what);
        }
        for (int day = 0; day < x.info(13); day++) {
            h = 31 * h + x.low(day);
        }
        for (int berth = 0; berth < x.info(6); berth++) {
            for (int what = 0; what <= 6; what++) {
                h = 31 * h + x.berth(berth, what);
            }
        }
        for (int boat = 0; boat < x.info(7); boat++) {
            for (int what = 0; what <= 9; what++) {
                h = 31 * h + x.boat(boat, what);
            }
            h = 31 * h + x.bestBerth(boat);
            h = 31 * h + x.groundsIn(boat);
        }
        for (int k = 0; k < x.info(9); k++) {
            h = 31 * h + x.waiting(k);
        }
        h = 31 * h + x.owed();
        h = 31 * h + x.paid();
        h = 31 * h + length;
        h = 31 * h + records;
        Checks.onlyTold("checksum()", x, h, x::checksum);
    }
}
