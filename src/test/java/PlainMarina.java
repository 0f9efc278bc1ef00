import java.util.ArrayList;
import java.util.Collections;
import java.util.List;
import java.util.regex.Pattern;

/**
 * A second reading of the document, for comparing: everything is done in the plainest way, and
 * on purpose in other ways than in MarinaBerths. An answer is a number, or "!" with the exception's name.
 */
final class PlainMarina {
    private static final long MOST = 2147483647L;
    private static final String INDEX = "!IndexOutOfBoundsException";
    private static final String ARGUMENT = "!IllegalArgumentException";
    private static final String STATE = "!IllegalStateException";
    private static final Pattern BEGUN_TABLE = Pattern.compile("(-?[0-9]{1,3},){0,13}-?[0-9]{0,3}");
    private static final Pattern WHOLE_TABLE = Pattern.compile("(-?[0-9]{1,3},){0,13}-?[0-9]{1,3}");

    private record Berth(int depth, int length, boolean exposed, int rate) {
    }

    private record Boat(int length, int draft, int bonus) {
    }

    /** What undo brings back. */
    private static final class Now {
        List<Integer> lows = new ArrayList<>(List.of(0));
        List<Berth> berths = new ArrayList<>();
        List<Boat> boats = new ArrayList<>();
        // By berth: the boat in it, or -1.
        List<Integer> guests = new ArrayList<>();
        // By boat.
        List<Integer> homes = new ArrayList<>();
        List<Boolean> ashore = new ArrayList<>();
        List<Long> owes = new ArrayList<>();
        List<Integer> waited = new ArrayList<>();
        // The boats that wait, in the order in which they began.
        List<Integer> waiters = new ArrayList<>();
        int[] settings = {30, 0, 270, 90};
        int day = 0;
        boolean winter = false;
        long paid = 0;

        Now copy() {
            Now copy = new Now();
            copy.lows = new ArrayList<>(lows);
            copy.berths = new ArrayList<>(berths);
            copy.boats = new ArrayList<>(boats);
            copy.guests = new ArrayList<>(guests);
            copy.homes = new ArrayList<>(homes);
            copy.ashore = new ArrayList<>(ashore);
            copy.owes = new ArrayList<>(owes);
            copy.waited = new ArrayList<>(waited);
            copy.waiters = new ArrayList<>(waiters);
            copy.settings = settings.clone();
            copy.day = day;
            copy.winter = winter;
            copy.paid = paid;
            return copy;
        }
    }

    private Now now = new Now();
    private final List<Now> records = new ArrayList<>();
    private String text = "";

    private void keep(Now before) {
        records.add(before);
        if (records.size() > 4) {
            records.remove(0);
        }
    }

    private static String told(long number) {
        return Long.toString(number);
    }

    // ---- what can be seen

    private static int lowest(Now at) {
        return Collections.min(at.lows);
    }

    private static int lowOn(Now at, long day) {
        return at.lows.get((int) (day % at.lows.size()));
    }

    private static boolean suits(Now at, int boat, int berth) {
        return suitsDeeper(at, boat, berth, 0);
    }

    private static boolean suitsDeeper(Now at, int boat, int berth, int more) {
        Boat guest = at.boats.get(boat);
        Berth host = at.berths.get(berth);
        return guest.length <= host.length && guest.draft + at.settings[0] <= host.depth + more + lowest(at);
    }

    private static int berthOf(Now at, int boat) {
        return at.guests.indexOf(boat);
    }

    private static int stateOf(Now at, int boat) {
        return berthOf(at, boat) >= 0 ? 1 : at.waiters.contains(boat) ? 2 : at.ashore.get(boat) ? 3 : 0;
    }

    private static boolean agroundAfter(Now at, int boat, int days) {
        int berth = berthOf(at, boat);
        return berth >= 0 && at.boats.get(boat).draft > at.berths.get(berth).depth + lowOn(at, at.day + days);
    }

    private static int points(Now at, int boat) {
        return at.waited.get(boat) + at.boats.get(boat).bonus;
    }

    private static List<Integer> list(Now at) {
        List<Integer> list = new ArrayList<>(at.waiters);
        // The sort is stable: of equal points, those that began earlier stay ahead.
        list.sort((a, b) -> points(at, b) - points(at, a));
        return list;
    }

    private static boolean takes(Now at, int berth) {
        return at.guests.get(berth) == -1 && !(at.winter && at.berths.get(berth).exposed);
    }

    private boolean isBoat(int boat) {
        return boat >= 0 && boat < now.boats.size();
    }

    private boolean isBerth(int berth) {
        return berth >= 0 && berth < now.berths.size();
    }

    // ---- promises 2 to 11

    String setTable() {
        if (faultOfText() != -1) {
            return ARGUMENT;
        }
        keep(now.copy());
        now.lows.clear();
        for (String number : text.split(",")) {
            now.lows.add(Integer.parseInt(number));
        }
        return told(now.lows.size());
    }

    String low(int day) {
        return day < 0 ? ARGUMENT : told(lowOn(now, day));
    }

    String addBerth(int depth, int length, boolean exposed, int rate) {
        if (depth < 50 || depth > 900 || length < 30 || length > 400 || rate < 0 || rate > 9999999) {
            return ARGUMENT;
        }
        if (now.berths.size() == 16) {
            return STATE;
        }
        keep(now.copy());
        now.berths.add(new Berth(depth, length, exposed, rate));
        now.guests.add(-1);
        return told(now.berths.size() - 1);
    }

    String addBoat(int length, int draft, int bonus) {
        if (length < 30 || length > 400 || draft < 20 || draft > 500 || bonus < 0 || bonus > 99) {
            return ARGUMENT;
        }
        if (now.boats.size() == 20) {
            return STATE;
        }
        keep(now.copy());
        now.boats.add(new Boat(length, draft, bonus));
        now.homes.add(-1);
        now.ashore.add(false);
        now.owes.add(0L);
        now.waited.add(0);
        return told(now.boats.size() - 1);
    }

    String set(int what, int value) {
        int[] greatest = {100, 9999999, 359, 359};
        if (what < 0 || what > 3 || value < 0 || value > greatest[what]) {
            return ARGUMENT;
        }
        Now before = now.copy();
        now.settings[what] = value;
        if (now.settings[2] == now.settings[3]) {
            now = before;
            return ARGUMENT;
        }
        keep(before);
        return told(before.settings[what]);
    }

    String setRate(int berth, int rate) {
        if (!isBerth(berth)) {
            return INDEX;
        }
        if (rate < 0 || rate > 9999999) {
            return ARGUMENT;
        }
        keep(now.copy());
        Berth old = now.berths.get(berth);
        now.berths.set(berth, new Berth(old.depth, old.length, old.exposed, rate));
        return told(old.rate);
    }

    String berth(int berth, int what) {
        if (!isBerth(berth)) {
            return INDEX;
        }
        if (what < 0 || what > 6) {
            return ARGUMENT;
        }
        Berth asked = now.berths.get(berth);
        int fitting = 0;
        for (int boat = 0; boat < now.boats.size(); boat++) {
            fitting += suits(now, boat, berth) ? 1 : 0;
        }
        return told(new int[] {asked.depth, asked.length, asked.exposed ? 1 : 0, asked.rate, now.guests.get(berth),
                asked.depth + lowest(now), fitting}[what]);
    }

    String boat(int boat, int what) {
        if (!isBoat(boat)) {
            return INDEX;
        }
        if (what < 0 || what > 9) {
            return ARGUMENT;
        }
        Boat asked = now.boats.get(boat);
        int state = stateOf(now, boat);
        int berth = berthOf(now, boat);
        return told(new long[] {asked.length, asked.draft, asked.bonus, state, berth,
                state == 2 ? points(now, boat) : -1, now.homes.get(boat), now.owes.get(boat),
                agroundAfter(now, boat, 0) ? 1 : 0, berth == -1 || suits(now, boat, berth) ? 1 : 0}[what]);
    }

    String fits(int boat, int berth) {
        return !isBoat(boat) || !isBerth(berth) ? INDEX : told(suits(now, boat, berth) ? 1 : 0);
    }

    String info(int what) {
        if (what < 0 || what > 13) {
            return ARGUMENT;
        }
        int[] states = new int[4];
        int aground = 0;
        for (int boat = 0; boat < now.boats.size(); boat++) {
            states[stateOf(now, boat)]++;
            aground += agroundAfter(now, boat, 0) ? 1 : 0;
        }
        int free = (int) now.guests.stream().filter(guest -> guest == -1).count();
        return told(new int[] {now.settings[0], now.settings[1], now.settings[2], now.settings[3], now.day,
                now.winter ? 1 : 0, now.berths.size(), now.boats.size(), free, states[2], states[3], aground,
                lowest(now), now.lows.size()}[what]);
    }

    // ---- promises 12 to 18

    private static void takeAway(Now at, int boat) {
        if (berthOf(at, boat) >= 0) {
            at.guests.set(berthOf(at, boat), -1);
        }
        at.waiters.remove((Integer) boat);
        at.ashore.set(boat, false);
    }

    private static void beginToWait(Now at, int boat) {
        takeAway(at, boat);
        at.waited.set(boat, 0);
        at.waiters.add(boat);
    }

    private void bring(int boat, int berth) {
        takeAway(now, boat);
        now.homes.set(boat, -1);
        now.guests.set(berth, boat);
    }

    String place(int boat, int berth) {
        if (!isBoat(boat) || !isBerth(berth)) {
            return INDEX;
        }
        if (!takes(now, berth) || !suits(now, boat, berth)) {
            return STATE;
        }
        keep(now.copy());
        int previous = berthOf(now, boat);
        bring(boat, berth);
        return told(previous);
    }

    String leave(int boat) {
        if (!isBoat(boat)) {
            return INDEX;
        }
        int state = stateOf(now, boat);
        if (state == 0 || now.owes.get(boat) != 0) {
            return STATE;
        }
        keep(now.copy());
        takeAway(now, boat);
        now.homes.set(boat, -1);
        return told(state);
    }

    String change(int one, int other) {
        if (!isBoat(one) || !isBoat(other)) {
            return INDEX;
        }
        if (one == other) {
            return ARGUMENT;
        }
        int from = berthOf(now, one);
        int to = berthOf(now, other);
        if (from == -1 || to == -1 || !suits(now, one, to) || !suits(now, other, from)) {
            return STATE;
        }
        keep(now.copy());
        takeAway(now, one);
        bring(other, from);
        bring(one, to);
        return told(to);
    }

    String await(int boat) {
        if (!isBoat(boat)) {
            return INDEX;
        }
        if (stateOf(now, boat) != 0) {
            return STATE;
        }
        keep(now.copy());
        beginToWait(now, boat);
        return told(list(now).indexOf(boat));
    }

    String offer(int berth) {
        if (!isBerth(berth)) {
            return INDEX;
        }
        if (!takes(now, berth)) {
            return STATE;
        }
        keep(now.copy());
        for (int boat : list(now)) {
            if (suits(now, boat, berth)) {
                bring(boat, berth);
                return told(boat);
            }
        }
        return told(-1);
    }

    String waiting(int k) {
        List<Integer> list = list(now);
        return told(k >= 0 && k < list.size() ? list.get(k) : -1);
    }

    String bestBerth(int boat) {
        if (!isBoat(boat)) {
            return INDEX;
        }
        int best = -1;
        long leastKey = Long.MAX_VALUE;
        for (int berth = 0; berth < now.berths.size(); berth++) {
            Berth asked = now.berths.get(berth);
            long key = (asked.length * 1000L + asked.depth) * 100 + berth;
            if (takes(now, berth) && suits(now, boat, berth) && key < leastKey) {
                leastKey = key;
                best = berth;
            }
        }
        return told(best);
    }

    // ---- promises 19 to 23

    /** The marina after the days, with the number of beginnings in begun[0]; null if a boat would owe too much. */
    private static Now after(Now start, int days, int[] begun) {
        Now at = start.copy();
        for (int k = 0; k < days; k++) {
            for (int boat = 0; boat < at.boats.size(); boat++) {
                int berth = berthOf(at, boat);
                long rate = berth >= 0 ? at.berths.get(berth).rate : at.ashore.get(boat) ? at.settings[1] : 0;
                long owes = at.owes.get(boat) + at.boats.get(boat).length * rate / 10;
                if (owes > MOST) {
                    return null;
                }
                at.owes.set(boat, owes);
            }
            at.day++;
            for (int boat : at.waiters) {
                at.waited.set(boat, at.waited.get(boat) + 1);
            }
            if (at.day % 360 == at.settings[2] && !at.winter) {
                beginWinter(at);
                begun[0]++;
            } else if (at.day % 360 == at.settings[3] && at.winter) {
                beginSpring(at);
                begun[0]++;
            }
        }
        return at;
    }

    private static void beginWinter(Now at) {
        at.winter = true;
        List<Integer> movers = new ArrayList<>();
        List<Integer> shelters = new ArrayList<>();
        for (int boat = 0; boat < at.boats.size(); boat++) {
            int berth = berthOf(at, boat);
            if (berth >= 0 && at.berths.get(berth).exposed) {
                movers.add(boat);
                at.homes.set(boat, berth);
                at.guests.set(berth, -1);
            }
        }
        for (int berth = 0; berth < at.berths.size(); berth++) {
            if (!at.berths.get(berth).exposed && at.guests.get(berth) == -1) {
                shelters.add(berth);
            }
        }
        int[][] most = mostByTaken(at, movers, shelters);
        int taken = 0;
        for (int m = 0; m < movers.size(); m++) {
            int chosen = -1;
            for (int s = 0; s < shelters.size() && chosen == -1; s++) {
                if ((taken >> s & 1) == 0 && suits(at, movers.get(m), shelters.get(s))
                        && 1 + most[m + 1][taken | 1 << s] == most[m][taken]) {
                    chosen = s;
                }
            }
            if (chosen == -1) {
                at.ashore.set(movers.get(m), true);
            } else {
                taken |= 1 << chosen;
                at.guests.set(shelters.get(chosen), movers.get(m));
            }
        }
    }

    /** By mover and set of taken shelters: how many movers, from this one on, can still be put somewhere. */
    private static int[][] mostByTaken(Now at, List<Integer> movers, List<Integer> shelters) {
        int[][] most = new int[movers.size() + 1][1 << shelters.size()];
        for (int m = movers.size() - 1; m >= 0; m--) {
            for (int taken = 0; taken < most[m].length; taken++) {
                most[m][taken] = most[m + 1][taken];
                for (int s = 0; s < shelters.size(); s++) {
                    if ((taken >> s & 1) == 0 && suits(at, movers.get(m), shelters.get(s))) {
                        most[m][taken] = Math.max(most[m][taken], 1 + most[m + 1][taken | 1 << s]);
                    }
                }
            }
        }
        return most;
    }

    private static void beginSpring(Now at) {
        at.winter = false;
        for (int boat = 0; boat < at.boats.size(); boat++) {
            int home = at.homes.get(boat);
            if (home == -1) {
                continue;
            }
            if (at.guests.get(home) == -1 && suits(at, boat, home)) {
                takeAway(at, boat);
                at.guests.set(home, boat);
            } else if (at.ashore.get(boat)) {
                beginToWait(at, boat);
            }
        }
        at.homes.replaceAll(home -> -1);
    }

    String pass(int n) {
        if (n < 1 || n > 400) {
            return ARGUMENT;
        }
        int[] begun = new int[1];
        Now later = after(now, n, begun);
        if (later == null) {
            return STATE;
        }
        keep(now);
        now = later;
        return told(begun[0]);
    }

    String pay(int boat, int amount) {
        if (!isBoat(boat)) {
            return INDEX;
        }
        if (amount < 1 || amount > now.owes.get(boat)) {
            return ARGUMENT;
        }
        keep(now.copy());
        now.owes.set(boat, now.owes.get(boat) - amount);
        now.paid += amount;
        return told(now.owes.get(boat));
    }

    String charge(int boat, int amount) {
        if (!isBoat(boat)) {
            return INDEX;
        }
        if (amount < 0) {
            return ARGUMENT;
        }
        if (now.owes.get(boat) + amount > MOST) {
            return STATE;
        }
        keep(now.copy());
        now.owes.set(boat, now.owes.get(boat) + amount);
        return told(now.owes.get(boat));
    }

    String owed() {
        return told(now.owes.stream().mapToLong(Long::longValue).sum());
    }

    String paid() {
        return told(now.paid);
    }

    // ---- promises 24 to 29

    String owesAfter(int boat, int n) {
        if (!isBoat(boat)) {
            return INDEX;
        }
        if (n < 1 || n > 400) {
            return ARGUMENT;
        }
        Now later = after(now, n, new int[1]);
        return told(later == null ? -1 : later.owes.get(boat));
    }

    String groundsIn(int boat) {
        if (!isBoat(boat)) {
            return INDEX;
        }
        for (int days = 0; days < 100; days++) {
            if (agroundAfter(now, boat, days)) {
                return told(days);
            }
        }
        return told(-1);
    }

    String winterBerth(int boat) {
        if (!isBoat(boat)) {
            return INDEX;
        }
        if (now.winter) {
            return STATE;
        }
        Now then = now.copy();
        beginWinter(then);
        return told(berthOf(then, boat));
    }

    String wouldGoAshore() {
        if (now.winter) {
            return STATE;
        }
        Now then = now.copy();
        beginWinter(then);
        return told(then.ashore.stream().filter(is -> is).count() - now.ashore.stream().filter(is -> is).count());
    }

    String greatestClearance() {
        Now then = now.copy();
        for (int clearance = 100; clearance >= 0; clearance--) {
            then.settings[0] = clearance;
            boolean all = true;
            for (int boat = 0; boat < then.boats.size(); boat++) {
                int berth = berthOf(then, boat);
                all &= berth == -1 || suits(then, boat, berth);
            }
            if (all) {
                return told(clearance);
            }
        }
        return told(-1);
    }

    String missingDepth(int boat, int berth) {
        if (!isBoat(boat) || !isBerth(berth)) {
            return INDEX;
        }
        for (int more = 0; more < 2000; more++) {
            if (suitsDeeper(now, boat, berth, more)) {
                return told(more);
            }
        }
        return told(-1);
    }

    // ---- promises 30 to 34

    String type(int c) {
        if (c < 32 || c > 126) {
            return ARGUMENT;
        }
        if (text.length() == 70) {
            return STATE;
        }
        text += (char) c;
        return told(text.length());
    }

    String clearText() {
        int previous = text.length();
        text = "";
        return told(previous);
    }

    String fault() {
        return told(faultOfText());
    }

    private int faultOfText() {
        for (int k = 1; k <= text.length(); k++) {
            if (!BEGUN_TABLE.matcher(text.substring(0, k)).matches()) {
                return k - 1;
            }
        }
        if (!WHOLE_TABLE.matcher(text).matches()) {
            return text.length();
        }
        int start = 0;
        for (String number : text.split(",")) {
            if (Math.abs(Integer.parseInt(number)) > 300) {
                return start;
            }
            start += number.length() + 1;
        }
        return -1;
    }

    String undo() {
        if (records.isEmpty()) {
            return STATE;
        }
        now = records.remove(records.size() - 1);
        return told(records.size());
    }

    String checksum() {
        List<String> all = new ArrayList<>();
        for (int what = 0; what <= 13; what++) {
            all.add(info(what));
        }
        for (int day = 0; day < now.lows.size(); day++) {
            all.add(low(day));
        }
        for (int berth = 0; berth < now.berths.size(); berth++) {
            for (int what = 0; what <= 6; what++) {
                all.add(berth(berth, what));
            }
        }
        for (int boat = 0; boat < now.boats.size(); boat++) {
            for (int what = 0; what <= 9; what++) {
                all.add(boat(boat, what));
            }
            all.add(bestBerth(boat));
            all.add(groundsIn(boat));
        }
        for (int boat : list(now)) {
            all.add(told(boat));
        }
        all.add(owed());
        all.add(paid());
        all.add(told(text.length()));
        all.add(told(records.size()));
        long h = 43079;
        for (String number : all) {
            h = 31 * h + Long.parseLong(number);
        }
        return told(h);
    }
}
