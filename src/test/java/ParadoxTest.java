/** Promises 27 to 34: strategies and paradoxes. */
public final class ParadoxTest {
    private static final int NONE = Votes.NONE, BAD_INDEX = Votes.BAD_INDEX;
    private static final int[] NO_RULES = {-1, 12, Integer.MIN_VALUE, Integer.MAX_VALUE};
    private static final int[] NO_GROUPS = {-1, 3, 20, Integer.MIN_VALUE, Integer.MAX_VALUE};

    public static void main(String[] args) {
        promises27And28();
        promise28FirstOrder();
        promise28FirstAndLastOrder();
        promise27BestOfSeveral();
        promise27WithdrawnOnBallot();
        promise29Strategists();
        promise30Absentees();
        promise31Raisers();
        promise31WithdrawnBetween();
        promise32Spoilers();
        promise33Split();
        promise34Removals();
        nothingChanges();
        nobodyStands();
        wrongRules();
        Check.finish();
    }

    /** Candidates 0 to 2 alone; voters and ballot by turns. */
    private static RankedVotes election(int... votes) {
        return Votes.election(24, votes);
    }

    private static void dueStrategy(String name, RankedVotes x, int rule, int group, int leadsTo, int... order) {
        String call = "(" + rule + ", " + group;
        Check.due(name + ": strategy" + call + ")", x.strategy(rule, group), leadsTo);
        for (int place = 0; place < order.length; place++) {
            Check.due(name + ": strategyAt" + call + ", " + place + ")", x.strategyAt(rule, group, place),
                order[place]);
        }
    }

    private static void promises27And28() {
        // 2 leaves first, and 0 gets its voters; group 1 can't save 1, but lets 2 win
        RankedVotes x = election(39, 123, 35, 231, 26, 312);
        dueStrategy("runoff", x, 6, 1, 2, 2, 0, 1);
        dueStrategy("runoff", x, 6, 0, NONE, NONE, NONE, NONE);
        // 0 is the second choice of group 2, and neither 1 nor 0 leads it to 2
        dueStrategy("runoff", x, 6, 2, NONE, NONE, NONE, NONE);
        for (int place : new int[] {-1, 3, 4, 5, Integer.MIN_VALUE, Integer.MAX_VALUE}) {
            Check.due("strategyAt(6, 1, " + place + ")", x.strategyAt(6, 1, place), BAD_INDEX);
            Check.due("strategyAt(6, 0, " + place + ") without one", x.strategyAt(6, 0, place), BAD_INDEX);
        }
        for (int g : NO_GROUPS) {
            Check.due("strategy(6, " + g + ")", x.strategy(6, g), BAD_INDEX);
            Check.due("strategyAt(6, " + g + ", 0)", x.strategyAt(6, g, 0), BAD_INDEX);
        }
    }

    private static void promise28FirstOrder() {
        // by points of first places 2 0 1 and 2 1 0 do the same, and so does any order of five
        RankedVotes x = new RankedVotes();
        x.addGroup(39, 123);
        x.addGroup(35, 231);
        x.addGroup(26, 312);
        dueStrategy("five stand", x, 0, 1, 2, 2, 0, 1, 3, 4);
        x.setStanding(1, false);
        // then group 1 is the one of 2, and has what it wants
        dueStrategy("four stand", x, 0, 1, NONE, NONE, NONE, NONE, NONE);
        Check.due("four stand: strategyAt(0, 1, 4)", x.strategyAt(0, 1, 4), BAD_INDEX);
        // the group of two can't help 2, but 3, the second on its ballot
        RankedVotes y = new RankedVotes();
        y.setStanding(0, false);
        y.addGroup(9, 2);
        y.addGroup(8, 4);
        y.addGroup(2, 34);
        dueStrategy("without 0", y, 0, 2, 3, 3, 1, 2, 4);
    }

    private static void promise28FirstAndLastOrder() {
        // by points of places, 28 to 26, 0 wins; group 1 must put 0 last, behind the one it likes least
        RankedVotes x = election(5, 132, 4, 312);
        Check.due("bury: winner(1)", x.winner(1), 0);
        dueStrategy("bury", x, 1, 1, 2, 2, 1, 0);
        RankedVotes y = election(5, 123, 4, 213);
        dueStrategy("bury by the fourth order", y, 1, 1, 1, 1, 2, 0);
        RankedVotes z = election(9, 2, 8, 1, 2, 31, 1, 3);
        dueStrategy("help by the first order", z, 0, 2, 0, 0, 1, 2);
    }

    private static void promise27BestOfSeveral() {
        // the voters of 3 can make 1 or 2 win against 0; they like 2 better, although the orders that
        // begin with 1 come first
        RankedVotes x = election(7, 1, 5, 2, 4, 3, 4, 432);
        x.setStanding(3, true);
        dueStrategy("best of two", x, 0, 3, 2, 2, 0, 1, 3);
        // those who rank 1 before 2 take 1
        x.addGroup(4, 423);
        x.removeGroup(3);
        dueStrategy("other of two", x, 0, 3, 1, 1, 0, 2, 3);
    }

    private static void promise27WithdrawnOnBallot() {
        // 1 could win instead of 0, but group 2 has ranked neither
        RankedVotes x = election(9, 1, 8, 2, 2, 43, 1, 3);
        dueStrategy("neither ranked", x, 0, 2, NONE, NONE, NONE, NONE);
        // group 2 ranks 2, then 1, of those who stand
        RankedVotes y = election(9, 1, 8, 2, 2, 4352);
        dueStrategy("withdrawn before", y, 0, 2, 1, 1, 0, 2);
    }

    private static void promise29Strategists() {
        RankedVotes x = election(39, 123, 35, 231, 26, 312);
        Check.due("strategists(6)", x.strategists(6), 2);
        Check.due("strategists(0)", x.strategists(0), 2);
        RankedVotes y = election(9, 1, 8, 2, 2, 32, 2, 32, 1, 3);
        // either of both groups of two is enough to let 1 win
        Check.due("two of them: strategists(0)", y.strategists(0), 12);
        RankedVotes first = election(2, 32, 9, 1, 8, 2, 1, 3);
        Check.due("the first: strategists(0)", first.strategists(0), 1);
        RankedVotes z = election();
        for (int g = 0; g < 18; g++) {
            z.addGroup(1, 123);
        }
        z.addGroup(17, 213);
        z.addGroup(2, 321);
        Check.due("the last of twenty: strategists(0)", z.strategists(0), 1 << 19);
        Check.due("no groups: strategists(0)", election().strategists(0), 0);
    }

    private static void promise30Absentees() {
        // 1 leaves with 7 of 25, and 2 wins; without either group of 0 that one leaves, and 1 wins,
        // whom both like better than 2
        RankedVotes x = election(4, 123, 5, 123, 7, 231, 9, 312);
        Check.due("winner(6)", x.winner(6), 2);
        Check.due("absentees(6)", x.absentees(6), 3);
        Check.due("absentees(0)", x.absentees(0), 0);
        // 0 leaves, and 1 wins with 16 of 25; without any one group 1 wins too, or 2, whom group 1 likes less
        Check.due("nobody gains: absentees(6)", election(4, 123, 12, 231, 9, 312).absentees(6), 0);
        Check.due("no groups: absentees(6)", election().absentees(6), 0);
    }

    private static void promise31Raisers() {
        // 2 leaves, and 0 wins; if group 2 raises 0, then 1 leaves, and 2 wins with 51 of 100
        RankedVotes x = election(39, 123, 25, 231, 10, 213, 26, 312);
        Check.due("winner(6)", x.winner(6), 0);
        Check.due("raisers(6)", x.raisers(6), 4);
        Check.due("raisers(0)", x.raisers(0), 0);
        // 30, 29 and 28: 2 leaves; if either group of two raises 0, then 1 has 27 and leaves
        RankedVotes y = election(2, 213, 30, 123, 25, 231, 28, 312, 2, 213);
        Check.due("two groups: winner(6)", y.winner(6), 0);
        Check.due("two groups: raisers(6)", y.raisers(6), 17);
        Check.due("no groups: raisers(6)", election().raisers(6), 0);
    }

    private static void promise31WithdrawnBetween() {
        // those who do not stand are no neighbours: 0 changes places with 1
        RankedVotes x = election(39, 123, 25, 231, 10, 24513, 26, 312);
        Check.due("withdrawn between: raisers(6)", x.raisers(6), 4);
        // 0 is the first of those who stand: there is nothing to raise
        RankedVotes y = election(39, 123, 25, 231, 10, 213, 26, 54312);
        Check.due("withdrawn before: raisers(6)", y.raisers(6), 4);
    }

    private static void promise32Spoilers() {
        // without 1 the voters of both help 2, and the other way round
        RankedVotes x = election(40, 1, 35, 23, 25, 32);
        Check.due("spoilers(0)", x.spoilers(0), 6);
        Check.due("spoilers(2)", x.spoilers(2), 0);
        RankedVotes y = election(40, 1, 35, 23, 25, 3);
        // those who voted for 1 help 2, but not the other way round
        Check.due("one of them: spoilers(0)", y.spoilers(0), 2);
        RankedVotes z = election(40, 2, 35, 31, 25, 13);
        Check.due("0 and 2: spoilers(0)", z.spoilers(0), 5);
        Check.due("three stand: spoilers(0)", election(5, 1, 4, 3).spoilers(0), 0);
    }

    private static void promise33Split() {
        // on the whole 0 leaves by 11 last places, and 2 wins; in each half 0 and 2 stay equal to the
        // end, and the greater number leaves
        RankedVotes x = election(4, 123, 4, 321, 7, 321, 7, 132);
        Check.due("winner(7)", x.winner(7), 2);
        Check.due("split(7)", x.split(7), 2);
        Check.due("split(0)", x.split(0), NONE);
        Check.due("one group: split(7)", election(4, 123).split(7), NONE);
        Check.due("no groups: split(7)", election().split(7), NONE);
    }

    private static void promise34Removals() {
        // with 4 away there are 35 and 35, and the lowest number wins
        RankedVotes x = election(39, 123, 35, 231, 26, 312);
        Check.due("removals(0)", x.removals(0), 5);
        // the only group may go as a whole, and then the lowest one wins
        Check.due("one group: removals(0)", election(5, 2).removals(0), 5);
        Check.due("one group of 100: removals(0)", election(100, 2).removals(0), 100);
        Check.due("the winner is the lowest: removals(0)", election(100, 1).removals(0), NONE);
        // of the groups that can, the one that needs fewest
        Check.due("two groups: removals(0)", election(6, 2, 6, 2, 10, 1).removals(0), 2);
        Check.due("too small groups: removals(0)", election(1, 2, 1, 2, 1, 2, 1, 2, 1, 1).removals(0), NONE);
        Check.due("no groups: removals(0)", election().removals(0), NONE);
    }

    private static void nothingChanges() {
        RankedVotes x = election(39, 123, 35, 231, 26, 312);
        for (int rule = 0; rule < 12; rule++) {
            int before = x.winners(rule);
            x.strategy(rule, 1);
            x.strategists(rule);
            x.absentees(rule);
            x.raisers(rule);
            x.spoilers(rule);
            x.split(rule);
            x.removals(rule);
            Check.due("winners(" + rule + ") afterwards", x.winners(rule), before);
        }
        Check.due("standing() afterwards", x.standing(), 7);
        Check.due("ballot(1) afterwards", x.ballot(1), 231);
        Check.due("voters(1) afterwards", x.voters(1), 35);
        Check.due("undo() afterwards", x.undo(), 4);
    }

    private static void nobodyStands() {
        RankedVotes x = new RankedVotes();
        x.addGroup(3, 12345);
        x.addGroup(2, 5);
        for (int c = 0; c < 5; c++) {
            x.setStanding(c, false);
        }
        for (int rule = 0; rule < 12; rule++) {
            Check.due("nobody: strategy(" + rule + ", 0)", x.strategy(rule, 0), NONE);
            Check.due("nobody: strategyAt(" + rule + ", 0, 0)", x.strategyAt(rule, 0, 0), BAD_INDEX);
            Check.due("nobody: strategists(" + rule + ")", x.strategists(rule), 0);
            Check.due("nobody: absentees(" + rule + ")", x.absentees(rule), 0);
            Check.due("nobody: raisers(" + rule + ")", x.raisers(rule), 0);
            Check.due("nobody: spoilers(" + rule + ")", x.spoilers(rule), 0);
            Check.due("nobody: split(" + rule + ")", x.split(rule), NONE);
            Check.due("nobody: removals(" + rule + ")", x.removals(rule), NONE);
        }
        x.setStanding(2, true);
        for (int rule = 0; rule < 12; rule++) {
            Check.due("only 2: strategyAt(" + rule + ", 0, 0)", x.strategyAt(rule, 0, 0), NONE);
            Check.due("only 2: spoilers(" + rule + ")", x.spoilers(rule), 0);
            Check.due("only 2: removals(" + rule + ")", x.removals(rule), NONE);
        }
    }

    private static void wrongRules() {
        RankedVotes x = election(39, 123, 35, 231, 26, 312);
        for (int rule : NO_RULES) {
            Check.due("strategy(" + rule + ", 0)", x.strategy(rule, 0), BAD_INDEX);
            Check.due("strategyAt(" + rule + ", 0, 0)", x.strategyAt(rule, 0, 0), BAD_INDEX);
            Check.due("strategists(" + rule + ")", x.strategists(rule), BAD_INDEX);
            Check.due("absentees(" + rule + ")", x.absentees(rule), BAD_INDEX);
            Check.due("raisers(" + rule + ")", x.raisers(rule), BAD_INDEX);
            Check.due("spoilers(" + rule + ")", x.spoilers(rule), BAD_INDEX);
            Check.due("split(" + rule + ")", x.split(rule), BAD_INDEX);
            Check.due("removals(" + rule + ")", x.removals(rule), BAD_INDEX);
        }
    }
}
