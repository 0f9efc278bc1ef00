/** Moorings of a marina; the promises that it keeps are those of ../shared/DOC.md. */
public final class MarinaBerths {
    public static final int NONE = -1;

    private static final int MOST_BERTHS = 16;
    private static final int MOST_BOATS = 20;
    private static final int MOST_LOWS = 14;
    private static final int MOST_SIGNS = 70;
    private static final int MOST_RECORDS = 4;
    private static final int MOST_DAYS = 400;

    private static final int GREATEST_LOW = 300;
    private static final int GREATEST_CLEARANCE = 100;
    private static final int GREATEST_RATE = 9999999;
    private static final int GREATEST_AMOUNT = 2147483647;
    private static final int DAYS_OF_YEAR = 360;

    private static final int AWAY = 0;
    private static final int IN_BERTH = 1;
    private static final int WAITING = 2;
    private static final int ASHORE = 3;

    private final Marina now = new Marina();
    // What is tried out here never shows in now, so a call that fails has nothing to take back.
    private final Marina thought = new Marina();
    private final Marina[] records = new Marina[MOST_RECORDS];
    private int recordCount;
    private final WinterPlan plan = new WinterPlan();
    private final TableText text = new TableText();

    public MarinaBerths() {
        for (int k = 0; k < MOST_RECORDS; k++) {
            records[k] = new Marina();
        }
    }

    // ---- water, berths, boats

    public int setTable() throws IllegalArgumentException {
        if (text.findFault() != NONE) {
            throw new IllegalArgumentException("the text has a fault");
        }
        remember();
        now.takeLows(text);
        return now.lowCount;
    }

    public int low(int day) throws IllegalArgumentException {
        if (day < 0) {
            throw new IllegalArgumentException("the day is negative");
        }
        return now.lowWater(day);
    }

    public int addBerth(int depth, int length, boolean exposed, int rate)
            throws IllegalArgumentException, IllegalStateException {
        if (!isWithin(depth, 50, 900) || !isWithin(length, 30, 400) || !isRate(rate)) {
            throw new IllegalArgumentException("depth, length or rate is out of range");
        }
        if (now.berthCount >= MOST_BERTHS) {
            throw new IllegalStateException("there are 16 berths");
        }
        remember();
        int number = now.berthCount;
        now.berths[number].become(depth, length, exposed, rate);
        now.berthCount = number + 1;
        return number;
    }

    public int addBoat(int length, int draft, int bonus)
            throws IllegalArgumentException, IllegalStateException {
        if (!isWithin(length, 30, 400) || !isWithin(draft, 20, 500) || !isWithin(bonus, 0, 99)) {
            throw new IllegalArgumentException("length, draft or bonus is out of range");
        }
        if (now.boatCount >= MOST_BOATS) {
            throw new IllegalStateException("there are 20 boats");
        }
        remember();
        int number = now.boatCount;
        now.boats[number].become(length, draft, bonus);
        now.boatCount = number + 1;
        return number;
    }

    public int set(int what, int value) throws IllegalArgumentException {
        if (!maySet(what, value)) {
            throw new IllegalArgumentException("what or value is out of range, or both days would be the same");
        }
        int previous = info(what);
        remember();
        switch (what) {
            case 0: now.clearance = value; break;
            case 1: now.rateAshore = value; break;
            case 2: now.firstOfWinter = value; break;
            default: now.firstOfSpring = value; break;
        }
        return previous;
    }

    public int setRate(int berth, int rate) throws IndexOutOfBoundsException, IllegalArgumentException {
        checkBerth(berth);
        if (!isRate(rate)) {
            throw new IllegalArgumentException("the rate is out of range");
        }
        remember();
        int previous = now.berths[berth].rate;
        now.berths[berth].rate = rate;
        return previous;
    }

    public int berth(int berth, int what) throws IndexOutOfBoundsException, IllegalArgumentException {
        checkBerth(berth);
        Berth asked = now.berths[berth];
        switch (what) {
            case 0: return asked.depth;
            case 1: return asked.length;
            case 2: return asked.exposed ? 1 : 0;
            case 3: return asked.rate;
            case 4: return now.boatIn(berth);
            case 5: return asked.depth + now.lowest;
            case 6: return now.countFitting(asked);
            default: throw new IllegalArgumentException("what is not 0 to 6");
        }
    }

    public int boat(int boat, int what) throws IndexOutOfBoundsException, IllegalArgumentException {
        checkBoat(boat);
        Boat asked = now.boats[boat];
        switch (what) {
            case 0: return asked.length;
            case 1: return asked.draft;
            case 2: return asked.bonus;
            case 3: return asked.state;
            case 4: return asked.berth;
            case 5: return asked.state == WAITING ? now.points(asked) : NONE;
            case 6: return asked.home;
            case 7: return asked.owes;
            case 8: return now.isAground(asked) ? 1 : 0;
            case 9: return now.isWhereItFits(asked) ? 1 : 0;
            default: throw new IllegalArgumentException("what is not 0 to 9");
        }
    }

    public boolean fits(int boat, int berth) throws IndexOutOfBoundsException {
        checkBoat(boat);
        checkBerth(berth);
        return now.suits(now.boats[boat], now.berths[berth]);
    }

    public int info(int what) throws IllegalArgumentException {
        switch (what) {
            case 0: return now.clearance;
            case 1: return now.rateAshore;
            case 2: return now.firstOfWinter;
            case 3: return now.firstOfSpring;
            case 4: return now.day;
            case 5: return now.winter ? 1 : 0;
            case 6: return now.berthCount;
            case 7: return now.boatCount;
            case 8: return now.berthCount - now.countIn(IN_BERTH);
            case 9: return now.countIn(WAITING);
            case 10: return now.countIn(ASHORE);
            case 11: return now.countAground();
            case 12: return now.lowest;
            case 13: return now.lowCount;
            default: throw new IllegalArgumentException("what is not 0 to 13");
        }
    }

    // ---- coming and going

    public int place(int boat, int berth) throws IndexOutOfBoundsException, IllegalStateException {
        checkBoat(boat);
        checkBerth(berth);
        Boat mover = now.boats[boat];
        if (!now.isOpen(berth) || !now.suits(mover, now.berths[berth])) {
            throw new IllegalStateException("the berth is not free, too small for the boat, or exposed in winter");
        }
        remember();
        int previous = mover.berth;
        mover.moveForGood(IN_BERTH, berth);
        return previous;
    }

    public int leave(int boat) throws IndexOutOfBoundsException, IllegalStateException {
        checkBoat(boat);
        Boat leaver = now.boats[boat];
        if (leaver.state == AWAY || leaver.owes > 0) {
            throw new IllegalStateException("the boat is away, or it owes something");
        }
        remember();
        int previous = leaver.state;
        leaver.moveForGood(AWAY, NONE);
        return previous;
    }

    public int change(int one, int other)
            throws IndexOutOfBoundsException, IllegalArgumentException, IllegalStateException {
        checkBoat(one);
        checkBoat(other);
        if (one == other) {
            throw new IllegalArgumentException("both boats are the same");
        }
        Boat first = now.boats[one];
        Boat second = now.boats[other];
        if (!now.suitsBerthOf(first, second) || !now.suitsBerthOf(second, first)) {
            throw new IllegalStateException("a boat is in no berth, or does not fit that of the other one");
        }
        remember();
        int berthOfFirst = first.berth;
        first.moveForGood(IN_BERTH, second.berth);
        second.moveForGood(IN_BERTH, berthOfFirst);
        return first.berth;
    }

    public int await(int boat) throws IndexOutOfBoundsException, IllegalStateException {
        checkBoat(boat);
        Boat waiter = now.boats[boat];
        if (waiter.state != AWAY) {
            throw new IllegalStateException("the boat is not away");
        }
        remember();
        now.beginToWait(waiter);
        return now.countAheadOf(waiter);
    }

    public int offer(int berth) throws IndexOutOfBoundsException, IllegalStateException {
        checkBerth(berth);
        if (!now.isOpen(berth)) {
            throw new IllegalStateException("the berth is not free, or exposed in winter");
        }
        remember();
        int boat = now.firstWaitingFor(now.berths[berth]);
        if (boat != NONE) {
            now.boats[boat].moveForGood(IN_BERTH, berth);
        }
        return boat;
    }

    public int waiting(int k) {
        return now.waitingAt(k);
    }

    public int bestBerth(int boat) throws IndexOutOfBoundsException {
        checkBoat(boat);
        return now.bestBerthFor(now.boats[boat]);
    }

    // ---- days and bills

    public int pass(int n) throws IllegalArgumentException, IllegalStateException {
        checkDays(n);
        thought.copyFrom(now);
        int begun = thought.letPass(n, plan);
        if (begun == NONE) {
            throw new IllegalStateException("a boat would owe too much");
        }
        remember();
        now.copyFrom(thought);
        return begun;
    }

    public int pay(int boat, int amount) throws IndexOutOfBoundsException, IllegalArgumentException {
        checkBoat(boat);
        Boat payer = now.boats[boat];
        if (!isWithin(amount, 1, payer.owes)) {
            throw new IllegalArgumentException("the amount is not from 1 to what the boat owes");
        }
        remember();
        payer.owes -= amount;
        now.paidInAll += amount;
        return payer.owes;
    }

    public int charge(int boat, int amount)
            throws IndexOutOfBoundsException, IllegalArgumentException, IllegalStateException {
        checkBoat(boat);
        if (amount < 0) {
            throw new IllegalArgumentException("the amount is negative");
        }
        Boat debtor = now.boats[boat];
        if (!debtor.canOweMore(amount)) {
            throw new IllegalStateException("the boat would owe too much");
        }
        remember();
        debtor.owes += amount;
        return debtor.owes;
    }

    public long owed() {
        return now.owedInAll();
    }

    public long paid() {
        return now.paidInAll;
    }

    // ---- in thought

    public int owesAfter(int boat, int n) throws IndexOutOfBoundsException, IllegalArgumentException {
        checkBoat(boat);
        checkDays(n);
        thought.copyFrom(now);
        return thought.letPass(n, plan) == NONE ? NONE : thought.boats[boat].owes;
    }

    public int groundsIn(int boat) throws IndexOutOfBoundsException {
        checkBoat(boat);
        return now.daysUntilAground(now.boats[boat]);
    }

    public int winterBerth(int boat) throws IndexOutOfBoundsException, IllegalStateException {
        checkBoat(boat);
        thinkOfWinter();
        return thought.boats[boat].berth;
    }

    public int wouldGoAshore() throws IllegalStateException {
        thinkOfWinter();
        // Spring leaves no boat ashore, so all that are there now went there in thought.
        return thought.countIn(ASHORE);
    }

    public int greatestClearance() {
        return now.clearanceForAll();
    }

    public int missingDepth(int boat, int berth) throws IndexOutOfBoundsException {
        checkBoat(boat);
        checkBerth(berth);
        Boat guest = now.boats[boat];
        Berth host = now.berths[berth];
        return guest.length > host.length ? NONE : Math.max(0, now.lackOfWater(guest, host));
    }

    // ---- texts, undo

    public int type(int c) throws IllegalArgumentException, IllegalStateException {
        if (!isWithin(c, 32, 126)) {
            throw new IllegalArgumentException("the code is not 32 to 126");
        }
        if (text.length >= MOST_SIGNS) {
            throw new IllegalStateException("the text has 70 characters");
        }
        text.append((char) c);
        return text.length;
    }

    public int clearText() {
        int previous = text.length;
        text.length = 0;
        return previous;
    }

    public int fault() {
        return text.findFault();
    }

    public int undo() throws IllegalStateException {
        if (recordCount < 1) {
            throw new IllegalStateException("there is no record");
        }
        recordCount--;
        now.copyFrom(records[recordCount]);
        return recordCount;
    }

    public long checksum() {
        long h = 43079;
        for (int what = 0; what <= 13; what++) {
            h = 31 * h + info(what);
        }
        for (int day = 0; day < now.lowCount; day++) {
            h = 31 * h + now.lowWater(day);
        }
        h = withBerths(h);
        h = withBoats(h);
        int waiters = now.countIn(WAITING);
        for (int k = 0; k < waiters; k++) {
            h = 31 * h + now.waitingAt(k);
        }
        h = 31 * h + now.owedInAll();
        h = 31 * h + now.paidInAll;
        h = 31 * h + text.length;
        return 31 * h + recordCount;
    }

    private long withBerths(long before) {
        long h = before;
        for (int berth = 0; berth < now.berthCount; berth++) {
            for (int what = 0; what <= 6; what++) {
                h = 31 * h + berth(berth, what);
            }
        }
        return h;
    }

    private long withBoats(long before) {
        long h = before;
        for (int boat = 0; boat < now.boatCount; boat++) {
            for (int what = 0; what <= 9; what++) {
                h = 31 * h + boat(boat, what);
            }
            h = 31 * h + now.bestBerthFor(now.boats[boat]);
            h = 31 * h + now.daysUntilAground(now.boats[boat]);
        }
        return h;
    }

    /** Records the marina; to be called when nothing can fail any more and nothing has changed yet. */
    private void remember() {
        if (recordCount >= MOST_RECORDS) {
            dropOldestRecord();
        }
        records[recordCount].copyFrom(now);
        recordCount++;
    }

    private void dropOldestRecord() {
        Marina oldest = records[0];
        for (int k = 1; k < MOST_RECORDS; k++) {
            records[k - 1] = records[k];
        }
        // The dropped row is used again, so that no call makes a new one.
        records[MOST_RECORDS - 1] = oldest;
        recordCount = MOST_RECORDS - 1;
    }

    private void thinkOfWinter() {
        if (now.winter) {
            throw new IllegalStateException("it is winter");
        }
        thought.copyFrom(now);
        thought.beginWinter(plan);
    }

    private void checkBerth(int berth) {
        if (berth < 0 || berth >= now.berthCount) {
            throw new IndexOutOfBoundsException("there is no such berth");
        }
    }

    private void checkBoat(int boat) {
        if (boat < 0 || boat >= now.boatCount) {
            throw new IndexOutOfBoundsException("there is no such boat");
        }
    }

    private static void checkDays(int n) {
        if (!isWithin(n, 1, MOST_DAYS)) {
            throw new IllegalArgumentException("the number of days is not 1 to 400");
        }
    }

    private boolean maySet(int what, int value) {
        switch (what) {
            case 0: return isWithin(value, 0, GREATEST_CLEARANCE);
            case 1: return isRate(value);
            case 2: return isDayOfYear(value) && value != now.firstOfSpring;
            case 3: return isDayOfYear(value) && value != now.firstOfWinter;
            default: return false;
        }
    }

    private static boolean isDayOfYear(int value) {
        return isWithin(value, 0, DAYS_OF_YEAR - 1);
    }

    private static boolean isRate(int value) {
        return isWithin(value, 0, GREATEST_RATE);
    }

    private static boolean isWithin(int value, int least, int greatest) {
        return value >= least && value <= greatest;
    }

    private static final class Berth {
        int depth;
        int length;
        boolean exposed;
        int rate;

        void become(int newDepth, int newLength, boolean newExposed, int newRate) {
            depth = newDepth;
            length = newLength;
            exposed = newExposed;
            rate = newRate;
        }

        void copyFrom(Berth other) {
            become(other.depth, other.length, other.exposed, other.rate);
        }

        boolean isTighterThan(Berth other) {
            return length < other.length || length == other.length && depth < other.depth;
        }
    }

    private static final class Boat {
        int length;
        int draft;
        int bonus;
        int state;
        int berth;
        int home;
        int owes;
        // The day and the turn in which it began to wait; turns tell apart the boats of one day.
        int waitsSince;
        int turn;

        void become(int newLength, int newDraft, int newBonus) {
            length = newLength;
            draft = newDraft;
            bonus = newBonus;
            owes = 0;
            moveForGood(AWAY, NONE);
        }

        void copyFrom(Boat other) {
            length = other.length;
            draft = other.draft;
            bonus = other.bonus;
            state = other.state;
            berth = other.berth;
            home = other.home;
            owes = other.owes;
            waitsSince = other.waitsSince;
            turn = other.turn;
        }

        void move(int newState, int newBerth) {
            state = newState;
            berth = newBerth;
        }

        void moveForGood(int newState, int newBerth) {
            move(newState, newBerth);
            home = NONE;
        }

        boolean canOweMore(long amount) {
            return owes + amount <= GREATEST_AMOUNT;
        }
    }

    /** All that undo brings back. Which boat is in a berth is told by the boats alone. */
    private static final class Marina {
        final Berth[] berths = new Berth[MOST_BERTHS];
        int berthCount;
        final Boat[] boats = new Boat[MOST_BOATS];
        int boatCount;
        final int[] lows = new int[MOST_LOWS];
        int lowCount = 1;
        int lowest;
        int clearance = 30;
        int rateAshore;
        int firstOfWinter = 270;
        int firstOfSpring = 90;
        int day;
        boolean winter;
        long paidInAll;
        int turns;

        Marina() {
            for (int k = 0; k < MOST_BERTHS; k++) {
                berths[k] = new Berth();
            }
            for (int k = 0; k < MOST_BOATS; k++) {
                boats[k] = new Boat();
            }
        }

        void copyFrom(Marina other) {
            berthCount = other.berthCount;
            for (int k = 0; k < berthCount; k++) {
                berths[k].copyFrom(other.berths[k]);
            }
            boatCount = other.boatCount;
            for (int k = 0; k < boatCount; k++) {
                boats[k].copyFrom(other.boats[k]);
            }
            lowCount = other.lowCount;
            for (int k = 0; k < lowCount; k++) {
                lows[k] = other.lows[k];
            }
            lowest = other.lowest;
            clearance = other.clearance;
            rateAshore = other.rateAshore;
            firstOfWinter = other.firstOfWinter;
            firstOfSpring = other.firstOfSpring;
            day = other.day;
            winter = other.winter;
            paidInAll = other.paidInAll;
            turns = other.turns;
        }

        void takeLows(TableText text) {
            lowCount = text.count;
            lowest = GREATEST_LOW;
            for (int k = 0; k < lowCount; k++) {
                lows[k] = text.numbers[k];
                lowest = Math.min(lowest, lows[k]);
            }
        }

        int lowWater(int ofDay) {
            return ofDay < 0 || lowCount < 1 ? 0 : lows[ofDay % lowCount];
        }

        /** By how much the berth is too shallow for the boat; not above 0 if it is deep enough. */
        int lackOfWater(Boat boat, Berth berth) {
            return boat.draft + clearance - (berth.depth + lowest);
        }

        boolean suits(Boat boat, Berth berth) {
            return boat.length <= berth.length && lackOfWater(boat, berth) <= 0;
        }

        boolean suitsBerthOf(Boat boat, Boat other) {
            Berth berth = berthOf(other);
            return berth != null && suits(boat, berth);
        }

        boolean isWhereItFits(Boat boat) {
            Berth berth = berthOf(boat);
            return berth == null || suits(boat, berth);
        }

        /** The berth that a boat is in; null if it is in none. */
        Berth berthOf(Boat boat) {
            return boat.berth < 0 || boat.berth >= berthCount ? null : berths[boat.berth];
        }

        int boatIn(int berth) {
            for (int k = 0; k < boatCount; k++) {
                if (boats[k].berth == berth) {
                    return k;
                }
            }
            return NONE;
        }

        boolean isOpen(int berth) {
            return boatIn(berth) == NONE && !(winter && berths[berth].exposed);
        }

        int countFitting(Berth berth) {
            int count = 0;
            for (int k = 0; k < boatCount; k++) {
                if (suits(boats[k], berth)) {
                    count++;
                }
            }
            return count;
        }

        int countIn(int state) {
            int count = 0;
            for (int k = 0; k < boatCount; k++) {
                if (boats[k].state == state) {
                    count++;
                }
            }
            return count;
        }

        int bestBerthFor(Boat boat) {
            int best = NONE;
            for (int berth = 0; berth < berthCount; berth++) {
                if (isOpen(berth) && suits(boat, berths[berth])
                        && (best == NONE || berths[berth].isTighterThan(berths[best]))) {
                    best = berth;
                }
            }
            return best;
        }

        boolean isAground(Boat boat) {
            return isAgroundOn(boat, day);
        }

        boolean isAgroundOn(Boat boat, int someDay) {
            Berth berth = berthOf(boat);
            return berth != null && boat.draft > berth.depth + lowWater(someDay);
        }

        int countAground() {
            int count = 0;
            for (int k = 0; k < boatCount; k++) {
                if (isAground(boats[k])) {
                    count++;
                }
            }
            return count;
        }

        int daysUntilAground(Boat boat) {
            // After lowCount days the low waters come again.
            for (int k = 0; k < lowCount; k++) {
                if (isAgroundOn(boat, day + k)) {
                    return k;
                }
            }
            return NONE;
        }

        int clearanceForAll() {
            int greatest = GREATEST_CLEARANCE;
            for (int k = 0; k < boatCount; k++) {
                Berth berth = berthOf(boats[k]);
                // No boat gets into a berth that is too short, and no length changes: only depths count.
                if (berth != null) {
                    greatest = Math.min(greatest, berth.depth + lowest - boats[k].draft);
                }
            }
            return greatest < 0 ? NONE : greatest;
        }

        void beginToWait(Boat boat) {
            boat.moveForGood(WAITING, NONE);
            boat.waitsSince = day;
            boat.turn = turns;
            turns++;
        }

        int points(Boat boat) {
            return day - boat.waitsSince + boat.bonus;
        }

        boolean isAhead(Boat boat, Boat other) {
            int more = points(boat) - points(other);
            return more > 0 || more == 0 && boat.turn < other.turn;
        }

        int countAheadOf(Boat boat) {
            int count = 0;
            for (int k = 0; k < boatCount; k++) {
                if (boats[k].state == WAITING && isAhead(boats[k], boat)) {
                    count++;
                }
            }
            return count;
        }

        int waitingAt(int place) {
            for (int k = 0; k < boatCount; k++) {
                if (boats[k].state == WAITING && countAheadOf(boats[k]) == place) {
                    return k;
                }
            }
            return NONE;
        }

        int firstWaitingFor(Berth berth) {
            int first = NONE;
            for (int k = 0; k < boatCount; k++) {
                if (boats[k].state == WAITING && suits(boats[k], berth)
                        && (first == NONE || isAhead(boats[k], boats[first]))) {
                    first = k;
                }
            }
            return first;
        }

        long owedInAll() {
            long sum = 0;
            for (int k = 0; k < boatCount; k++) {
                sum += boats[k].owes;
            }
            return sum;
        }

        /** Answers how often winter or spring began; NONE if a boat would owe too much, and then all is spoilt. */
        int letPass(int days, WinterPlan plan) {
            int begun = 0;
            for (int k = 0; k < days; k++) {
                if (!chargeAll()) {
                    return NONE;
                }
                day++;
                int dayOfYear = day % DAYS_OF_YEAR;
                if (!winter && dayOfYear == firstOfWinter) {
                    beginWinter(plan);
                    begun++;
                } else if (winter && dayOfYear == firstOfSpring) {
                    beginSpring();
                    begun++;
                }
            }
            return begun;
        }

        private boolean chargeAll() {
            for (int k = 0; k < boatCount; k++) {
                long fee = feeOfDay(boats[k]);
                if (!boats[k].canOweMore(fee)) {
                    return false;
                }
                boats[k].owes += (int) fee;
            }
            return true;
        }

        private long feeOfDay(Boat boat) {
            Berth berth = berthOf(boat);
            if (berth != null) {
                return (long) boat.length * berth.rate / 10;
            }
            return boat.state == ASHORE ? (long) boat.length * rateAshore / 10 : 0;
        }

        void beginWinter(WinterPlan plan) {
            winter = true;
            plan.clear();
            for (int k = 0; k < boatCount; k++) {
                Berth berth = berthOf(boats[k]);
                if (berth != null && berth.exposed) {
                    boats[k].home = boats[k].berth;
                    boats[k].move(ASHORE, NONE);
                    plan.ask(k, shelterFor(boats[k]));
                }
            }
            for (int k = 0; k < boatCount; k++) {
                int berth = plan.giveTo(k);
                if (berth != NONE) {
                    boats[k].move(IN_BERTH, berth);
                }
            }
        }

        /** The free sheltered berths that a boat fits, berth b as the bit b. */
        private int shelterFor(Boat boat) {
            int bits = 0;
            for (int berth = 0; berth < berthCount; berth++) {
                if (!berths[berth].exposed && boatIn(berth) == NONE && suits(boat, berths[berth])) {
                    bits |= 1 << berth;
                }
            }
            return bits;
        }

        private void beginSpring() {
            winter = false;
            for (int k = 0; k < boatCount; k++) {
                Boat boat = boats[k];
                int home = boat.home;
                if (home < 0 || home >= berthCount) {
                    continue;
                }
                if (boatIn(home) == NONE && suits(boat, berths[home])) {
                    boat.move(IN_BERTH, home);
                } else if (boat.state == ASHORE) {
                    beginToWait(boat);
                }
                boat.home = NONE;
            }
        }
    }

    /** Gives sheltered berths to the boats that winter drives out of exposed ones; sets of berths are bits. */
    private static final class WinterPlan {
        private final int[] wishes = new int[MOST_BOATS];
        private final int[] holders = new int[MOST_BERTHS];
        private int open;
        private int seen;

        void clear() {
            open = (1 << MOST_BERTHS) - 1;
            for (int k = 0; k < MOST_BOATS; k++) {
                wishes[k] = 0;
            }
        }

        void ask(int boat, int berths) {
            wishes[boat] = berths;
        }

        /** The berth for a boat; the boats are to be served in ascending order. */
        int giveTo(int boat) {
            int most = mostFrom(boat);
            for (int berth = 0; berth < MOST_BERTHS; berth++) {
                int bit = 1 << berth;
                if ((wishes[boat] & open & bit) == 0) {
                    continue;
                }
                open &= ~bit;
                // A berth is right only if the boats behind lose none of their number by it.
                if (mostFrom(boat + 1) + 1 == most) {
                    return berth;
                }
                open |= bit;
            }
            return NONE;
        }

        /** The greatest number of boats, from this one on, for which there are open berths at once. */
        private int mostFrom(int firstBoat) {
            for (int berth = 0; berth < MOST_BERTHS; berth++) {
                holders[berth] = NONE;
            }
            int most = 0;
            for (int boat = firstBoat; boat < MOST_BOATS; boat++) {
                seen = 0;
                if (findsBerth(this, boat, 0)) {
                    most++;
                }
            }
            return most;
        }

        /** Whether a boat gets a berth, perhaps by moving others; every level sees one berth more, so depth ends. */
        private static boolean findsBerth(WinterPlan plan, int boat, int depth) {
            if (boat < 0 || boat >= MOST_BOATS || depth > MOST_BERTHS) {
                return false;
            }
            for (int berth = 0; berth < MOST_BERTHS; berth++) {
                int bit = 1 << berth;
                if ((plan.wishes[boat] & plan.open & ~plan.seen & bit) == 0) {
                    continue;
                }
                plan.seen |= bit;
                if (plan.holders[berth] == NONE || findsBerth(plan, plan.holders[berth], depth + 1)) {
                    plan.holders[berth] = boat;
                    return true;
                }
            }
            return false;
        }
    }

    /** The text buffer, and the numbers that it tells. */
    private static final class TableText {
        private final char[] signs = new char[MOST_SIGNS];
        int length;
        final int[] numbers = new int[MOST_LOWS];
        int count;

        void append(char sign) {
            signs[length] = sign;
            length++;
        }

        /** Reads the numbers on the way; all of them are there if the answer is NONE. */
        int findFault() {
            int outOfRange = NONE;
            int at = 0;
            for (count = 0; count < MOST_LOWS; count++) {
                int start = at;
                if (isAt(at, '-')) {
                    at++;
                }
                int end = endOfDigits(at);
                if (end == at) {
                    return at;
                }
                int size = valueOf(at, end);
                numbers[count] = at > start ? -size : size;
                if (size > GREATEST_LOW && outOfRange == NONE) {
                    outOfRange = start;
                }
                if (end == length) {
                    count++;
                    return outOfRange;
                }
                if (!isAt(end, ',')) {
                    return end;
                }
                at = end + 1;
            }
            // The "," behind the last number that a table can have.
            return at - 1;
        }

        private boolean isAt(int index, char sign) {
            return index < length && signs[index] == sign;
        }

        private int endOfDigits(int start) {
            int end = start;
            while (end < start + 3 && end < length && signs[end] >= '0' && signs[end] <= '9') {
                end++;
            }
            return end;
        }

        private int valueOf(int start, int end) {
            int value = 0;
            for (int k = start; k < end; k++) {
                value = 10 * value + (signs[k] - '0');
            }
            return value;
        }
    }
}
