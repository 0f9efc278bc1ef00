import java.util.function.LongSupplier;

/**
 * Long runs of drawn calls, each answered by MarinaBerths and by PlainMarina; the draws are the same every time.
 * An argument sets another number of runs.
 */
final class RandomRunsTest {
    private static final int RUNS = 400;
    private static final int CALLS = 512;
    private static final int CALLS_OF_FACE = 33;
    private static final int[] ODD = {-2147483648, -2, -1, 0, 1, 13, 14, 16, 20, 70, 301, 360, 401, 10000000,
        2147483647};
    private static final String[] TABLES = {"0", "0,-20,15", "-40,-30,-80,5,0", "-60", "300,-300", "12,-5,,", "301",
        "10,9,8,7,6,5,4,3,2,1,0,-1,-2,-3", "10,9,8,7,6,5,4,3,2,1,0,-1,-2,-3,-4", "-1,-0001", "5,-"};

    private static long seed;
    private static MarinaBerths x;
    private static PlainMarina plain;
    private static final int[] answered = new int[CALLS_OF_FACE];

    // How a run draws: what depths and lengths, how dear, how many are exposed, how often it draws odd numbers.
    private static int depthSpan;
    private static int lengthSpan;
    private static int rateSpan;
    private static int exposedOfTen;
    private static int oddOfHundred;

    public static void main(String[] args) {
        int runs = args.length == 0 ? RUNS : Integer.parseInt(args[0]);
        int wrong = 0;
        for (int run = 0; run < runs && wrong < 10; run++) {
            seed = 77 + 1000003L * run;
            wrong += doRun(run);
        }
        if (wrong > 0) {
            Checks.tell(wrong + " runs went wrong");
        }
        for (int call = 0; call < CALLS_OF_FACE; call++) {
            if (answered[call] == 0) {
                Checks.tell("call " + call + " never answered, so the draws are too poor");
            }
        }
        Checks.finish("RandomRunsTest");
    }

    private static int draw(int bound) {
        seed = seed * 6364136223846793005L + 1442695040888963407L;
        return (int) ((seed >>> 33) % bound);
    }

    private static int from(int least, int greatest) {
        return least + draw(greatest - least + 1);
    }

    /** Mostly an ordinary number, sometimes one from the edges and beyond. */
    private static int mostly(int ordinary) {
        return draw(100) < oddOfHundred ? ODD[draw(ODD.length)] : ordinary;
    }

    private static int doRun(int run) {
        x = new MarinaBerths();
        plain = new PlainMarina();
        depthSpan = new int[] {0, 40, 100, 250}[draw(4)];
        lengthSpan = new int[] {0, 20, 60, 150}[draw(4)];
        rateSpan = new int[] {1, 10, 1000, 100000, 10000000}[draw(5)];
        exposedOfTen = from(2, 9);
        oddOfHundred = new int[] {0, 2, 10}[draw(3)];
        int firstBerths = draw(17);
        int firstBoats = draw(21);
        for (int k = 0; k < CALLS; k++) {
            int call = k < firstBerths ? 2 : k < firstBerths + firstBoats ? 3 : nextCall();
            String told = make(call);
            if (told != null) {
                System.out.println("run " + run + ", call " + k + ": " + told);
                return 1;
            }
        }
        return 0;
    }

    private static int nextCall() {
        int kind = draw(100);
        if (kind < 18) {
            return 10;
        }
        if (kind < 24) {
            return 13;
        }
        if (kind < 28) {
            return 28;
        }
        if (kind < 40) {
            return 17;
        }
        if (kind < 50) {
            return 32;
        }
        return draw(CALLS_OF_FACE);
    }

    private static int aBoat() {
        return mostly(draw(Math.max(1, Math.toIntExact(number(7)))));
    }

    private static int aBerth() {
        return mostly(draw(Math.max(1, Math.toIntExact(number(6)))));
    }

    private static long number(int what) {
        return Long.parseLong(plain.info(what));
    }

    private static String make(int call) {
        if (call < 10) {
            return makeWater(call);
        }
        return call < 22 ? makeComing(call) : makeThought(call);
    }

    private static String makeWater(int call) {
        int a;
        int b;
        int c;
        switch (call) {
            case 0:
                typeTable();
                return same(call, x::setTable, plain.setTable());
            case 1:
                a = mostly(draw(1000));
                return same(call, () -> x.low(a), plain.low(a));
            case 2:
                a = mostly(200 + from(0, depthSpan));
                b = mostly(100 + from(0, lengthSpan));
                c = mostly(draw(rateSpan));
                boolean exposed = draw(10) < exposedOfTen;
                return same(call, () -> x.addBerth(a, b, exposed, c), plain.addBerth(a, b, exposed, c));
            case 3:
                a = mostly(70 + from(0, lengthSpan + 30));
                b = mostly(100 + from(0, depthSpan + 40));
                c = mostly(draw(4) * draw(25));
                return same(call, () -> x.addBoat(a, b, c), plain.addBoat(a, b, c));
            case 4:
                a = mostly(draw(4));
                b = mostly(a == 0 ? draw(101) : a == 1 ? draw(rateSpan) : a == 2 && draw(2) == 0 ? soon() : draw(360));
                return same(call, () -> x.set(a, b), plain.set(a, b));
            case 5:
                a = aBerth();
                b = mostly(draw(rateSpan));
                return same(call, () -> x.setRate(a, b), plain.setRate(a, b));
            case 6:
                a = aBerth();
                b = mostly(draw(7));
                return same(call, () -> x.berth(a, b), plain.berth(a, b));
            case 7:
                a = aBoat();
                b = mostly(draw(10));
                return same(call, () -> x.boat(a, b), plain.boat(a, b));
            case 8:
                a = aBoat();
                b = aBerth();
                return same(call, () -> x.fits(a, b) ? 1 : 0, plain.fits(a, b));
            default:
                a = mostly(draw(14));
                return same(call, () -> x.info(a), plain.info(a));
        }
    }

    private static int soon() {
        return (int) ((number(4) + from(1, 5)) % 360);
    }

    private static String makeComing(int call) {
        int a;
        int b;
        switch (call) {
            case 10:
                a = aBoat();
                b = aBerth();
                return same(call, () -> x.place(a, b), plain.place(a, b));
            case 11:
                a = aBoat();
                return same(call, () -> x.leave(a), plain.leave(a));
            case 12:
                a = aBoat();
                b = aBoat();
                return same(call, () -> x.change(a, b), plain.change(a, b));
            case 13:
                a = aBoat();
                return same(call, () -> x.await(a), plain.await(a));
            case 14:
                a = aBerth();
                return same(call, () -> x.offer(a), plain.offer(a));
            case 15:
                a = mostly(draw(6));
                return same(call, () -> x.waiting(a), plain.waiting(a));
            case 16:
                a = aBoat();
                return same(call, () -> x.bestBerth(a), plain.bestBerth(a));
            case 17:
                a = mostly(draw(3) == 0 ? from(1, 400) : from(1, 60));
                return same(call, () -> x.pass(a), plain.pass(a));
            case 18:
                a = aBoat();
                b = mostly(draw(2) == 0 ? (int) owesOf(a) : from(1, 1000));
                return same(call, () -> x.pay(a, b), plain.pay(a, b));
            case 19:
                a = aBoat();
                b = mostly(draw(8) == 0 ? 2147483647 - draw(50000) : draw(100000));
                return same(call, () -> x.charge(a, b), plain.charge(a, b));
            case 20:
                return same(call, x::owed, plain.owed());
            default:
                return same(call, x::paid, plain.paid());
        }
    }

    private static long owesOf(int boat) {
        String owes = plain.boat(boat, 7);
        return owes.charAt(0) == '!' ? 1 : Long.parseLong(owes);
    }

    private static String makeThought(int call) {
        int a;
        int b;
        switch (call) {
            case 22:
                a = aBoat();
                b = mostly(from(1, 400));
                return same(call, () -> x.owesAfter(a, b), plain.owesAfter(a, b));
            case 23:
                a = aBoat();
                return same(call, () -> x.groundsIn(a), plain.groundsIn(a));
            case 24:
                a = aBoat();
                return same(call, () -> x.winterBerth(a), plain.winterBerth(a));
            case 25:
                return same(call, x::wouldGoAshore, plain.wouldGoAshore());
            case 26:
                return same(call, x::greatestClearance, plain.greatestClearance());
            case 27:
                a = aBoat();
                b = aBerth();
                return same(call, () -> x.missingDepth(a, b), plain.missingDepth(a, b));
            case 28:
                a = mostly("0123456789,,,---".charAt(draw(16)));
                return same(call, () -> x.type(a), plain.type(a));
            case 29:
                return same(call, x::clearText, plain.clearText());
            case 30:
                return same(call, x::fault, plain.fault());
            case 31:
                return same(call, x::undo, plain.undo());
            default:
                return same(call, x::checksum, plain.checksum());
        }
    }

    private static void typeTable() {
        if (draw(3) == 0) {
            return;
        }
        x.clearText();
        plain.clearText();
        String table = TABLES[draw(TABLES.length)];
        for (int k = 0; k < table.length(); k++) {
            x.type(table.charAt(k));
            plain.type(table.charAt(k));
        }
    }

    /** Null if both answer the same; else what they answered. */
    private static String same(int call, LongSupplier made, String due) {
        String got;
        try {
            got = Long.toString(made.getAsLong());
            answered[call]++;
        } catch (RuntimeException thrown) {
            got = "!" + thrown.getClass().getSimpleName();
        }
        return got.equals(due) ? null : "call " + call + " answered " + got + ", due is " + due;
    }
}
