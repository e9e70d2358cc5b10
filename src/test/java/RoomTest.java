import java.lang.management.ManagementFactory;
import java.lang.management.ThreadMXBean;

/**
 * All calls of a run live in one room, so that no call may make anything: the bytes are counted that
 * this thread allocates in the dearest calls.
 */
public final class RoomTest {
    /** What the counting itself and the machine may need; one array a call were far more. */
    private static final long LEEWAY = 4000;

    private static long allocated(ThreadMXBean threads) {
        return ((com.sun.management.ThreadMXBean) threads).getThreadAllocatedBytes(Thread.currentThread().getId());
    }

    private static int callAll(RankedVotes x, int rule) {
        int sum = x.winners(rule) + x.winner(rule) + x.points(rule, 1) + x.beatsAll() + x.losesToAll() + x.smith();
        sum += x.strength(0, 1) + x.isLocked(1, 2) + x.rounds(rule) + x.leaves(rule, 1) + x.tally(rule, 1, 2);
        sum += x.kemenyValue() + x.kemeny(3) + x.favourite() + x.pair(2, 3) + x.allVoters();
        sum += x.strategy(rule, 3) + x.strategyAt(rule, 4, 2) + x.strategists(rule) + x.absentees(rule);
        sum += x.raisers(rule) + x.spoilers(rule) + x.split(rule) + x.removals(rule);
        sum += x.sample(rule, 5, 50) + x.agreeing(rule, 6, 50, 20);
        sum += x.setVoters(2, 9) + x.exchange(3, 0) + x.setStanding(4, true) + x.removeGroup(7);
        sum += x.addGroup(7, 321) + x.undo() + x.type('5') + x.textFault() + x.load() + x.clearText();
        sum += x.type('5') + x.type(':') + x.type('1') + x.textFault() + x.load() + x.undo() + x.clearText();
        return sum;
    }

    public static void main(String[] args) {
        ThreadMXBean threads = ManagementFactory.getThreadMXBean();
        int[] ballots = {12345, 5432, 251, 34, 3, 41532, 2143, 5};
        RankedVotes x = new RankedVotes();
        for (int g = 0; g < 19; g++) {
            x.addGroup(100 - g, ballots[g % ballots.length]);
        }
        allocated(threads);
        int sum = callAll(x, 0);
        long before = allocated(threads);
        for (int rule = 0; rule < 12; rule++) {
            sum += callAll(x, rule);
        }
        long used = allocated(threads) - before;
        Check.due("more than " + LEEWAY + " bytes (" + used + ") in calls that answer " + sum, used > LEEWAY ? 1 : 0, 0);
        Check.finish();
    }
}
