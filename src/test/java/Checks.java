import java.util.function.LongSupplier;

/** Counts the answers that are not as due; every test ends with finish(). */
final class Checks {
    static final Class<?> INDEX = IndexOutOfBoundsException.class;
    static final Class<?> ARGUMENT = IllegalArgumentException.class;
    static final Class<?> STATE = IllegalStateException.class;

    private static int wrong = 0;

    private Checks() {
    }

    static void due(String call, long got, long want) {
        if (got != want) {
            tell(call + " answered " + got + ", due is " + want);
        }
    }

    static void due(String call, boolean got, boolean want) {
        if (got != want) {
            tell(call + " answered " + got + ", due is " + want);
        }
    }

    /** The call must throw just this class and change nothing, records included. */
    static void refused(String call, MarinaBerths x, Class<?> want, LongSupplier made) {
        long before = told(x);
        long checksum = x.checksum();
        try {
            tell(call + " answered " + made.getAsLong() + ", due is " + want.getName());
        } catch (RuntimeException thrown) {
            if (thrown.getClass() != want) {
                tell(call + " threw " + thrown + ", due is " + want.getName());
            }
        }
        due("what is told after the refused " + call, told(x), before);
        due("checksum() after the refused " + call, x.checksum(), checksum);
    }

    /** The call must answer this and make a record that brings everything back; it stands at the end. */
    static void undoable(String call, MarinaBerths x, long want, LongSupplier made) {
        long before = told(x);
        due(call, made.getAsLong(), want);
        long after = told(x);
        x.undo();
        due("what is told after the undone " + call, told(x), before);
        due(call + " again", made.getAsLong(), want);
        due("what is told after " + call + " again", told(x), after);
    }

    /** The call must answer this and change nothing, records included. */
    static void onlyTold(String call, MarinaBerths x, long want, LongSupplier made) {
        long before = told(x);
        long checksum = x.checksum();
        due(call, made.getAsLong(), want);
        due("what is told after " + call, told(x), before);
        due("checksum() after " + call, x.checksum(), checksum);
    }

    /** One number for all that the marina tells about itself, but for the records. */
    private static long told(MarinaBerths x) {
        long all = 17;
        for (int what = 0; what <= 13; what++) {
            all = 1000003 * all + x.info(what);
        }
        for (int day = 0; day < 14; day++) {
            all = 1000003 * all + x.low(day);
        }
        for (int berth = 0; berth < x.info(6); berth++) {
            for (int what = 0; what <= 6; what++) {
                all = 1000003 * all + x.berth(berth, what);
            }
        }
        for (int boat = 0; boat < x.info(7); boat++) {
            for (int what = 0; what <= 9; what++) {
                all = 1000003 * all + x.boat(boat, what);
            }
            all = 1000003 * all + x.waiting(boat);
        }
        all = 1000003 * all + x.owed();
        return 1000003 * all + x.paid();
    }

    static void type(MarinaBerths x, String text) {
        x.clearText();
        for (int k = 0; k < text.length(); k++) {
            x.type(text.charAt(k));
        }
    }

    static void setTable(MarinaBerths x, String text) {
        type(x, text);
        x.setTable();
    }

    static void finish(String test) {
        System.out.println(test + ": " + (wrong == 0 ? "all answers are as due" : wrong + " answers are not as due"));
        if (wrong != 0) {
            System.exit(1);
        }
    }

    static void tell(String what) {
        wrong++;
        System.out.println(what);
    }
}
