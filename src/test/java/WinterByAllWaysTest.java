import java.util.ArrayList;
import java.util.Arrays;
import java.util.List;

/**
 * Small marinas in which winter begins, held against the document's own words: all ways to put boats into sheltered
 * berths are gone through, those with a lower berth for the lowest boat first, and the first one with the greatest
 * number is the right one. The draws are the same every time.
 */
final class WinterByAllWaysTest {
    private static final int MARINAS = 4000;
    private static final int MOST_OF_A_KIND = 5;
    private static final int CLEARANCE = 30;
    // With fewer of them the draws would be too poor to tell a wrong way from the right one.
    private static final int LEAST_ASIDE = 200;

    private static long seed = 4711;
    private static MarinaBerths x;
    // What was drawn is kept here, so that the marina itself is asked for nothing but its answers.
    private static int[][] berths;
    private static int[][] boats;
    private static int[] berthOf;
    private static int[] boatIn;

    private static final List<Integer> movers = new ArrayList<>();
    private static int[] way;
    private static int[] best;
    private static int most;
    private static int aside;

    public static void main(String[] args) {
        for (int k = 0; k < MARINAS; k++) {
            makeBerths();
            makeBoats();
            findBest();
            compare("marina " + k);
        }
        if (aside < LEAST_ASIDE) {
            Checks.tell("only in " + aside + " marinas a boat makes room for another one");
        }
        Checks.finish("WinterByAllWaysTest");
    }

    private static int draw(int bound) {
        seed = seed * 6364136223846793005L + 1442695040888963407L;
        return (int) ((seed >>> 33) % bound);
    }

    /** Exposed berths, which take every boat, among sheltered ones, which differ. */
    private static void makeBerths() {
        x = new MarinaBerths();
        berths = new int[MOST_OF_A_KIND + 1 + draw(MOST_OF_A_KIND)][];
        int exposed = 0;
        for (int k = 0; k < berths.length; k++) {
            boolean isExposed = exposed < MOST_OF_A_KIND && (k - exposed == MOST_OF_A_KIND || draw(2) == 0);
            exposed += isExposed ? 1 : 0;
            berths[k] = isExposed ? new int[] {900, 400, 1}
                    : new int[] {200 + 10 * draw(4), 100 + 10 * draw(4), 0};
            x.addBerth(berths[k][0], berths[k][1], isExposed, 0);
        }
    }

    /** Nearly every exposed berth gets a boat, and some of the sheltered ones. */
    private static void makeBoats() {
        boats = new int[berths.length + 2][];
        berthOf = new int[boats.length];
        boatIn = new int[berths.length];
        Arrays.fill(berthOf, MarinaBerths.NONE);
        Arrays.fill(boatIn, MarinaBerths.NONE);
        for (int k = 0; k < boats.length; k++) {
            boats[k] = new int[] {90 + 10 * draw(5), 160 + 10 * draw(5)};
            x.addBoat(boats[k][0], boats[k][1], 0);
        }
        for (int berth = 0; berth < berths.length; berth++) {
            int boat = draw(boats.length);
            boolean isWanted = berths[berth][2] == 1 ? draw(10) > 0 : draw(6) == 0;
            if (isWanted && berthOf[boat] == MarinaBerths.NONE && suits(boat, berth)) {
                x.place(boat, berth);
                berthOf[boat] = berth;
                boatIn[berth] = boat;
            }
        }
    }

    private static boolean suits(int boat, int berth) {
        return boats[boat][0] <= berths[berth][1] && boats[boat][1] + CLEARANCE <= berths[berth][0];
    }

    private static boolean isShelterFor(int boat, int berth) {
        return berths[berth][2] == 0 && boatIn[berth] == MarinaBerths.NONE && suits(boat, berth);
    }

    private static void findBest() {
        movers.clear();
        for (int boat = 0; boat < boats.length; boat++) {
            if (berthOf[boat] != MarinaBerths.NONE && berths[berthOf[boat]][2] == 1) {
                movers.add(boat);
            }
        }
        way = new int[movers.size()];
        most = -1;
        goThrough(0, 0, 0);
    }

    private static void goThrough(int mover, int taken, int number) {
        if (mover == way.length) {
            if (number > most) {
                most = number;
                best = way.clone();
            }
            return;
        }
        for (int berth = 0; berth < berths.length; berth++) {
            if ((taken >> berth & 1) == 0 && isShelterFor(movers.get(mover), berth)) {
                way[mover] = berth;
                goThrough(mover + 1, taken | 1 << berth, number + 1);
            }
        }
        way[mover] = MarinaBerths.NONE;
        goThrough(mover + 1, taken, number);
    }

    private static void compare(String marina) {
        aside += makesRoom() ? 1 : 0;
        int[] due = berthOf.clone();
        for (int k = 0; k < best.length; k++) {
            due[movers.get(k)] = best[k];
        }
        Checks.due(marina + ": wouldGoAshore()", x.wouldGoAshore(), best.length - most);
        for (int boat = 0; boat < due.length; boat++) {
            Checks.due(marina + ": winterBerth(" + boat + ")", x.winterBerth(boat), due[boat]);
        }
        x.set(2, 1);
        Checks.due(marina + ": pass(1)", x.pass(1), 1);
        Checks.due(marina + ": boats ashore", x.info(10), best.length - most);
        for (int k = 0; k < best.length; k++) {
            int boat = movers.get(k);
            Checks.due(marina + ": home of boat " + boat, x.boat(boat, 6), berthOf[boat]);
        }
        for (int boat = 0; boat < due.length; boat++) {
            Checks.due(marina + ": berth of boat " + boat + " in winter", x.boat(boat, 4), due[boat]);
        }
    }

    /** Whether a boat is not in the lowest berth that those before it have left to it. */
    private static boolean makesRoom() {
        int taken = 0;
        for (int k = 0; k < best.length; k++) {
            for (int berth = 0; berth < berths.length; berth++) {
                boolean isLower = best[k] == MarinaBerths.NONE || berth < best[k];
                if (isLower && (taken >> berth & 1) == 0 && isShelterFor(movers.get(k), berth)) {
                    return true;
                }
            }
            taken |= best[k] == MarinaBerths.NONE ? 0 : 1 << best[k];
        }
        return false;
    }
}
