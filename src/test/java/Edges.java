import java.lang.reflect.InvocationTargetException;
import java.lang.reflect.Method;
import java.util.ArrayList;
import java.util.Arrays;
import java.util.Comparator;
import java.util.List;

/** What the tests of the document's sentences share. Each check makes its marinas anew: none leans on another. */
abstract class Edges {
    static final int NONE = -1;
    static final int MOST = 2147483647;
    static final int LEAST = -2147483648;
    static final Class<?> INDEX = IndexOutOfBoundsException.class;
    static final Class<?> ARGUMENT = IllegalArgumentException.class;
    static final Class<?> STATE = IllegalStateException.class;

    private static String sentence = "";

    /** Makes a marina, always the same. */
    interface Start {
        MarinaBerths make();
    }

    interface Steps {
        void on(MarinaBerths x);
    }

    interface Call {
        long on(MarinaBerths x);
    }

    /** Runs every method of the test that bears the words of a sentence. */
    static void hold(Class<?> test) {
        Method[] methods = test.getDeclaredMethods();
        Arrays.sort(methods, Comparator.comparing(Method::getName));
        for (Method method : methods) {
            Says says = method.getAnnotation(Says.class);
            if (says != null) {
                sentence = method.getName() + " (promise " + says.promise() + "): ";
                run(method);
            }
        }
        Checks.finish(test.getName());
    }

    private static void run(Method method) {
        try {
            method.setAccessible(true);
            method.invoke(null);
        } catch (InvocationTargetException e) {
            Checks.tell(sentence + "ended with " + e.getCause());
        } catch (IllegalAccessException e) {
            Checks.tell(sentence + "could not be run");
        }
    }

    static Start start(Steps steps) {
        return then(MarinaBerths::new, steps);
    }

    static Start then(Start start, Steps steps) {
        return () -> {
            MarinaBerths x = start.make();
            steps.on(x);
            return x;
        };
    }

    static void due(String call, long got, long want) {
        Checks.due(sentence + call, got, want);
    }

    /** The call answers this and changes nothing: a query, or what comes to one. */
    static void tells(Start start, String call, long want, Call made) {
        due(call, made.on(start.make()), want);
        dueUntouched(call, then(start, made::on), start);
    }

    /** The call answers this and changes nothing but the text; so it makes no record either. */
    static void changesText(Start start, String call, long want, Call made) {
        due(call, made.on(start.make()), want);
        dueSame(call, then(start, made::on), start);
    }

    /** The call answers this, and one undo() takes all of it back: the call is undoable. */
    static void does(Start start, String call, long want, Call made) {
        due(call, made.on(start.make()), want);
        List<List<String>> before = history(start);
        List<List<String>> after = history(then(start, made::on));
        due("number of records after " + call, after.size() - 1, Math.min(4, before.size()));
        for (int k = 1; k < after.size(); k++) {
            dueEqual(call + ", undone " + k + " times", after.get(k), before.get(k - 1));
        }
        dueSameText(call, then(start, made::on), start);
    }

    /** The call throws just this class and changes nothing: not what is told, not the text, none of the records. */
    static void refuses(Start start, String call, Class<?> want, Call made) {
        try {
            Checks.tell(sentence + call + " answered " + made.on(start.make()) + ", due is " + want.getName());
        } catch (RuntimeException thrown) {
            if (thrown.getClass() != want) {
                Checks.tell(sentence + call + " threw " + thrown + ", due is " + want.getName());
            }
        }
        dueUntouched("the refused " + call, then(start, x -> tryOn(x, made)), start);
    }

    private static void tryOn(MarinaBerths x, Call made) {
        try {
            made.on(x);
        } catch (RuntimeException thrown) {
            // That it throws the right one is seen to elsewhere; here only what it leaves behind counts.
            return;
        }
    }

    /** Nothing tells the two apart: not what they tell, not the text, none of the records. */
    static void dueUntouched(String call, Start with, Start without) {
        dueSame(call, with, without);
        dueSameText(call, with, without);
        due("checksum() after " + call, with.make().checksum(), without.make().checksum());
    }

    private static void dueSame(String call, Start with, Start without) {
        List<List<String>> after = history(with);
        List<List<String>> before = history(without);
        due("number of records after " + call, after.size(), before.size());
        for (int k = 0; k < Math.min(after.size(), before.size()); k++) {
            dueEqual(call + ", undone " + k + " times", after.get(k), before.get(k));
        }
    }

    private static void dueSameText(String call, Start with, Start without) {
        due("fault() after " + call, with.make().fault(), without.make().fault());
        due("length of the text after " + call, with.make().clearText(), without.make().clearText());
    }

    private static void dueEqual(String call, List<String> got, List<String> want) {
        for (int k = 0; k < Math.min(got.size(), want.size()); k++) {
            if (!got.get(k).equals(want.get(k))) {
                Checks.tell(sentence + "after " + call + " " + got.get(k) + ", due is " + want.get(k));
                return;
            }
        }
        due("number of answers after " + call, got.size(), want.size());
    }

    /** What is told now, and after each undo(); each time a new marina is asked, so that none has over 512 calls. */
    private static List<List<String>> history(Start start) {
        List<List<String>> all = new ArrayList<>();
        for (int undone = 0; undone <= 9; undone++) {
            MarinaBerths x = start.make();
            if (!undo(x, undone)) {
                return all;
            }
            all.add(told(x));
        }
        return all;
    }

    private static boolean undo(MarinaBerths x, int times) {
        try {
            for (int k = 0; k < times; k++) {
                x.undo();
            }
            return true;
        } catch (IllegalStateException noRecord) {
            return false;
        }
    }

    private static List<String> told(MarinaBerths x) {
        List<String> all = new ArrayList<>();
        for (int what = 0; what <= 13; what++) {
            all.add("info(" + what + ") is " + x.info(what));
        }
        for (int day = 0; day < 14; day++) {
            all.add("low(" + day + ") is " + x.low(day));
        }
        for (int berth = 0; berth < x.info(6); berth++) {
            for (int what = 0; what <= 6; what++) {
                all.add("berth(" + berth + ", " + what + ") is " + x.berth(berth, what));
            }
        }
        for (int boat = 0; boat < x.info(7); boat++) {
            for (int what = 0; what <= 9; what++) {
                all.add("boat(" + boat + ", " + what + ") is " + x.boat(boat, what));
            }
            all.add("waiting(" + boat + ") is " + x.waiting(boat));
        }
        all.add("owed() is " + x.owed());
        all.add("paid() is " + x.paid());
        return all;
    }

    static void text(MarinaBerths x, String text) {
        x.clearText();
        for (int k = 0; k < text.length(); k++) {
            x.type(text.charAt(k));
        }
    }

    static void table(MarinaBerths x, String text) {
        text(x, text);
        x.setTable();
    }

    /** So many times the same sign. */
    static void typeOften(MarinaBerths x, char sign, int times) {
        for (int k = 0; k < times; k++) {
            x.type(sign);
        }
    }

    /** Berths of 300 depth and 100 length without a fee. */
    static void berths(MarinaBerths x, boolean exposed, int number) {
        for (int k = 0; k < number; k++) {
            x.addBerth(300, 100, exposed, 0);
        }
    }

    /** Boats of 100 length and 100 draft without a bonus. */
    static void boats(MarinaBerths x, int number) {
        for (int k = 0; k < number; k++) {
            x.addBoat(100, 100, 0);
        }
    }

    /** Winter is made to begin with the next day. */
    static void winter(MarinaBerths x) {
        x.set(2, (x.info(4) + 1) % 360);
        x.pass(1);
    }

    /** Spring is made to begin with the next day. */
    static void spring(MarinaBerths x) {
        x.set(3, (x.info(4) + 1) % 360);
        x.pass(1);
    }
}
