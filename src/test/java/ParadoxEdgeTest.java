/** The sentences that bound strategies and paradoxes: promises 27 to 34 at their edges. */
public final class ParadoxEdgeTest {
    private static final int NONE = Votes.NONE, BAD_INDEX = Votes.BAD_INDEX;

    public static void main(String[] args) {
        betterIsRankedAbove();
        favouriteCannotBeBetter();
        betterAsItIsInTheGroup();
        strategiesAreOrdersOfAll();
        firstOfSeveralStrategies();
        bestAfterBetter();
        placesOfStrategies();
        strategyOfTheLastGroup();
        absenteesNeedBetter();
        absenteesAreNotCounted();
        absenteeIsTheLastGroup();
        raisersNeedAPlaceBehind();
        raiserIsTheLastGroup();
        raisedFromTheLastPlace();
        spoilersAreOthersThatStand();
        splitAtTheFirst();
        splitAtTheLast();
        splitNeedsAnother();
        removalOfOne();
        removalOfWholeGroup();
        removalsOfAtLeast();
        oneOrNobodyStands();
        Check.finish();
    }

    private static RankedVotes three(int... votes) {
        return Votes.election(24, votes);
    }

    private static void dueOrder(String name, RankedVotes x, int rule, int group, int... order) {
        for (int place = 0; place < order.length; place++) {
            Check.due(name + ": strategyAt(" + rule + ", " + group + ", " + place + ")",
                x.strategyAt(rule, group, place), order[place]);
        }
    }

    private static void betterIsRankedAbove() {
        Check.sentence("A candidate is better than another one for a group if its ballot ranks it above");
        // 0 wins with 9; the group of two could let 1 win
        int[] ballots = {3, 31, 32, 312, 321};
        boolean[] better = {false, false, true, false, true};
        for (int i = 0; i < ballots.length; i++) {
            RankedVotes x = three(9, 1, 8, 2, 2, ballots[i]);
            int due = better[i] ? 1 : NONE;
            Check.due(ballots[i] + ": strategy(0, 2)", x.strategy(0, 2), due);
            Check.due(ballots[i] + ": strategists(0)", x.strategists(0), due == NONE ? 0 : 4);
        }
        // this group ranks nobody who stands
        RankedVotes y = three(9, 1, 8, 2, 2, 54);
        Check.due("empty ballot: strategy(0, 2)", y.strategy(0, 2), NONE);
        Check.due("empty ballot: strategists(0)", y.strategists(0), 0);
    }

    private static void favouriteCannotBeBetter() {
        Check.sentence("Returns the winner that it brings; NONE if the group has no strategy;");
        RankedVotes x = three(9, 123, 1, 231);
        for (int rule = 0; rule < Votes.RULES; rule++) {
            Check.due("all for 0: strategy(" + rule + ", 0)", x.strategy(rule, 0), NONE);
            Check.due("all for 0: strategy(" + rule + ", 1)", x.strategy(rule, 1), NONE);
            Check.due("all for 0: strategists(" + rule + ")", x.strategists(rule), 0);
            dueOrder("all for 0", x, rule, 1, NONE, NONE, NONE);
        }
    }

    private static void betterAsItIsInTheGroup() {
        Check.sentence("(as it is in the group, not as another one that is cast)");
        // to help 1 against 0 the group must cast an order that begins with 1; by that order 2, its
        // own first one, would be worse, but 1 is what it likes better than 0 on its own ballot
        RankedVotes x = three(9, 132, 8, 231, 2, 321);
        Check.due("321: strategy(0, 2)", x.strategy(0, 2), 1);
        dueOrder("321", x, 0, 2, 1, 0, 2);
        // an order that begins with 1 would rank 1 above 0, but the ballot does not
        RankedVotes y = three(9, 132, 8, 231, 2, 312);
        Check.due("312: strategy(0, 2)", y.strategy(0, 2), NONE);
    }

    private static void strategiesAreOrdersOfAll() {
        Check.sentence("All orders are sequences of all candidates of A, in the lexicographic order of their numbers.");
        // the ballot of group 1 has one candidate, its strategy all of A: 0 is the last one there and
        // gets none of the 3 points that it has of the ballot
        RankedVotes x = three(5, 132, 3, 3);
        Check.due("3: points(1, 0)", x.points(1, 0), 23);
        Check.due("3: points(1, 2)", x.points(1, 2), 22);
        Check.due("3: strategy(1, 1)", x.strategy(1, 1), 2);
        dueOrder("3", x, 1, 1, 2, 1, 0);
        // all of A, and they alone
        RankedVotes z = Votes.election(9, 9, 2, 8, 3, 2, 53);
        Check.due("1, 2 and 4 stand: strategy(0, 2)", z.strategy(0, 2), 2);
        dueOrder("1, 2 and 4 stand", z, 0, 2, 2, 1, 4, BAD_INDEX, BAD_INDEX);
    }

    private static void firstOfSeveralStrategies() {
        Check.sentence("The best strategy is a strategy such that no other order leads to a winner that is better for the "
            + "group than its own; of several the first one.");
        // 24 orders begin with the helped one; the first one has the others by their numbers
        int[][] first = {{0, 1, 2, 3, 4}, {1, 0, 2, 3, 4}, {2, 0, 1, 3, 4}, {3, 0, 1, 2, 4}, {4, 0, 1, 2, 3}};
        for (int helped = 0; helped < 5; helped++) {
            int ahead = helped == 0 ? 1 : 0;
            int own = helped == 4 ? 3 : 4;
            RankedVotes x = Votes.election(0, 9, ahead + 1, 8, helped + 1, 2, (own + 1) * 10 + helped + 1);
            Check.due("help " + helped + ": winner(0)", x.winner(0), ahead);
            Check.due("help " + helped + ": strategy(0, 2)", x.strategy(0, 2), helped);
            dueOrder("help " + helped, x, 0, 2, first[helped]);
        }
        // 1 and 2 can be helped: the one that the ballot ranks above, not the first one
        RankedVotes y = Votes.election(0, 9, 1, 7, 2, 7, 3, 3, 432);
        Check.due("432: strategy(0, 3)", y.strategy(0, 3), 2);
        dueOrder("432", y, 0, 3, 2, 0, 1, 3, 4);
        RankedVotes z = Votes.election(0, 9, 1, 7, 2, 7, 3, 3, 423);
        Check.due("423: strategy(0, 3)", z.strategy(0, 3), 1);
        dueOrder("423", z, 0, 3, 1, 0, 2, 3, 4);
    }

    private static void bestAfterBetter() {
        Check.sentence("such that no other order leads to a winner that is better for the group than its own;");
        // by points 62 to 62, 60 and 8 0 wins; the order 1, 2, 0, 3 leads to 1, whom the group ranks
        // second, and only 2, 3, 1, 0, which comes later, to 2
        RankedVotes x = Votes.election(16, 1, 3, 9, 1234, 6, 32);
        Check.due("two that are better: winner(1)", x.winner(1), 0);
        Check.due("two that are better: strategy(1, 2)", x.strategy(1, 2), 2);
        dueOrder("two that are better", x, 1, 2, 2, 3, 1, 0);
        // w is the second one on the ballot, and the first one can be helped
        RankedVotes y = three(5, 132, 4, 312);
        Check.due("second one wins: winner(1)", y.winner(1), 0);
        Check.due("second one wins: strategy(1, 1)", y.strategy(1, 1), 2);
        dueOrder("second one wins", y, 1, 1, 2, 1, 0);
    }

    private static void placesOfStrategies() {
        Check.sentence("or place is negative or not less than the number of candidates that stand.");
        for (int withdrawn = 0; withdrawn < 32; withdrawn++) {
            int stand = 5 - Integer.bitCount(withdrawn);
            RankedVotes x = Votes.election(withdrawn, 3, 12345);
            for (int place = 0; place < stand; place++) {
                Check.due("without " + withdrawn + ": strategyAt(0, 0, " + place + ")", x.strategyAt(0, 0, place), NONE);
            }
            for (int place : Votes.outside(stand)) {
                Check.due("without " + withdrawn + ": strategyAt(0, 0, " + place + ")", x.strategyAt(0, 0, place),
                    BAD_INDEX);
            }
        }
        RankedVotes y = three(9, 1, 8, 2, 2, 321);
        dueOrder("with one", y, 0, 2, 1, 0, 2);
        for (int place : Votes.outside(3)) {
            Check.due("with one: strategyAt(0, 2, " + place + ")", y.strategyAt(0, 2, place), BAD_INDEX);
        }
    }

    /** Groups of one whose ballots are empty, so that the next ones have high numbers. */
    private static RankedVotes behind(int fillers, int... votes) {
        RankedVotes x = three();
        for (int g = 0; g < fillers; g++) {
            x.addGroup(1, 4);
        }
        for (int i = 0; i < votes.length; i += 2) {
            x.addGroup(votes[i], votes[i + 1]);
        }
        return x;
    }

    private static void strategyOfTheLastGroup() {
        Check.sentence("Returns the groups that have a strategy.");
        RankedVotes x = behind(17, 9, 1, 8, 2, 2, 32);
        Check.due("group 19: strategists(0)", x.strategists(0), 1 << 19);
        Check.due("group 19: strategy(0, 19)", x.strategy(0, 19), 1);
        dueOrder("group 19", x, 0, 19, 1, 0, 2);
        Check.due("group 0: strategists(0)", three(2, 32, 9, 1, 8, 2).strategists(0), 1);
        Check.due("no groups: strategists(0)", three().strategists(0), 0);
        // those who rank nobody with a chance, or have what they want
        RankedVotes all = new RankedVotes();
        for (int g = 0; g < 20; g++) {
            all.addGroup(1, 32);
        }
        Check.due("20 groups of one mind: strategists(0)", all.strategists(0), 0);
    }

    private static void absenteesNeedBetter() {
        Check.sentence("A group had better stay at home if without it the winner would be better for it than w.");
        // what the winner is without group 2 is asked of an election without it
        int[] ballots = {312, 321, 31, 32, 3, 4};
        for (int ballot : ballots) {
            RankedVotes x = three(4, 12, 4, 21, 1, ballot);
            for (int rule = 0; rule < Votes.RULES; rule++) {
                RankedVotes without = three(4, 12, 4, 21);
                int stays = without.winner(rule);
                int comes = x.winner(rule);
                int place = Integer.toString(ballot).indexOf('1' + stays);
                int other = Integer.toString(ballot).indexOf('1' + comes);
                boolean better = place >= 0 && (other < 0 || place < other);
                Check.due(ballot + ": absentees(" + rule + ") & 4", x.absentees(rule) & 4, better ? 4 : 0);
            }
        }
        // the winner is the same, or one that the group does not like better: 1 with it, 0 without it
        RankedVotes y = three(5, 1, 5, 2, 1, 2);
        Check.due("1 is the favourite: winner(0)", y.winner(0), 1);
        Check.due("1 is the favourite: absentees(0)", y.absentees(0), 0);
        Check.due("no groups: absentees(0)", three().absentees(0), 0);
        Check.due("one group: absentees(7)", three(5, 21).absentees(7), 0);
    }

    private static void absenteesAreNotCounted() {
        Check.sentence("A group had better stay at home if without it");
        // with group 2 0 is the first one of 3 of 6, and 1 wins by the second places; without it 3 of 5
        // are enough for 0, whom it ranks above 1
        RankedVotes x = three(3, 12, 2, 2, 1, 31);
        Check.due("3 of 6: winner(8)", x.winner(8), 1);
        Check.due("3 of 5: absentees(8)", x.absentees(8), 4);
        // without it 3 of 6 are not enough either
        RankedVotes y = three(3, 12, 3, 2, 1, 31);
        Check.due("3 of 7: winner(8)", y.winner(8), 1);
        Check.due("3 of 6: absentees(8)", y.absentees(8), 0);
    }

    private static void absenteeIsTheLastGroup() {
        Check.sentence("Returns the groups that had better stay at home.");
        // 1 leaves with 7 of 25, and 2 wins; without group 18 or 19 0 leaves, and 1 wins
        RankedVotes x = behind(16, 7, 231, 9, 312, 4, 123, 5, 123);
        Check.due("groups 18 and 19: winner(6)", x.winner(6), 2);
        Check.due("groups 18 and 19: absentees(6)", x.absentees(6), 3 << 18);
        RankedVotes y = three(5, 123, 7, 231, 9, 312, 4, 231);
        Check.due("nobody: absentees(6)", y.absentees(6), 0);
        RankedVotes z = three(4, 123, 7, 231, 9, 312, 5, 123);
        Check.due("groups 0 and 3: winner(6)", z.winner(6), 2);
        Check.due("groups 0 and 3: absentees(6)", z.absentees(6), 9);
    }

    private static void raisersNeedAPlaceBehind() {
        Check.sentence("A group hurts by raising if w is on its ballot and not the first one there");
        // 2 leaves, and 0 wins; if ten voters more have 0 before 1, then 1 leaves, and 2 wins
        int[] ballots = {213, 21, 2513, 24513, 2415, 42153, 52314};
        int[] raised = {4, 4, 4, 4, 4, 4, 0};
        for (int i = 0; i < ballots.length; i++) {
            RankedVotes x = three(39, 123, 25, 231, 10, ballots[i], 26, 312);
            Check.due(ballots[i] + ": winner(6)", x.winner(6), 0);
            Check.due(ballots[i] + ": raisers(6)", x.raisers(6), raised[i]);
        }
        // 0 is not on it, is the first one, or is the first one of those who stand
        for (int ballot : new int[] {2, 25, 23, 524, 4}) {
            RankedVotes y = three(39, 123, 25, 231, 10, ballot, 26, 312);
            Check.due(ballot + ": raisers(6)", y.raisers(6), 0);
        }
        for (int ballot : new int[] {123, 1, 5123, 45123, 41}) {
            RankedVotes z = three(29, 123, 35, 231, 10, ballot, 26, 312);
            Check.due(ballot + ": winner(6)", z.winner(6), 0);
            Check.due(ballot + ": raisers(6)", z.raisers(6), 0);
        }
    }

    private static void raiserIsTheLastGroup() {
        Check.sentence("Returns the groups that hurt by raising.");
        RankedVotes x = behind(16, 39, 123, 25, 231, 26, 312, 10, 213);
        Check.due("group 19: raisers(6)", x.raisers(6), 1 << 19);
        Check.due("group 0: raisers(6)", three(10, 213, 39, 123, 25, 231, 26, 312).raisers(6), 1);
        Check.due("no groups: raisers(6)", three().raisers(6), 0);
    }

    private static void raisedFromTheLastPlace() {
        Check.sentence("if, after w and the one directly before it there (both among the candidates of A) have changed "
            + "places on the ballot of all its voters, w is not the winner any more.");
        // exchange() does the same on the ballots themselves, as all candidates stand
        RankedVotes x = Votes.election(0, 39, 52341, 25, 23451, 10, 25341, 26, 34521);
        for (int rule = 0; rule < Votes.RULES; rule++) {
            int w = x.winner(rule);
            int due = 0;
            for (int g = 0; g < 4; g++) {
                int place = Integer.toString(x.ballot(g)).indexOf('1' + w);
                if (place > 0) {
                    x.exchange(g, place - 1);
                    due += x.winner(rule) == w ? 0 : 1 << g;
                    x.exchange(g, place - 1);
                }
            }
            Check.due("five stand: raisers(" + rule + ")", x.raisers(rule), due);
        }
    }

    private static void spoilersAreOthersThatStand() {
        Check.sentence("A candidate of A other than w is a spoiler if the winner would be another one than w if it did not "
            + "stand.");
        // without 1 its voters help 2; without 0, who wins, 1 would win, but 0 is w
        RankedVotes x = Votes.election(0, 40, 1, 35, 23, 25, 3);
        Check.due("1 takes from 2: spoilers(0)", x.spoilers(0), 2);
        // 4 takes from 3
        RankedVotes y = Votes.election(0, 40, 1, 35, 54, 25, 4);
        Check.due("4 takes from 3: spoilers(0)", y.spoilers(0), 16);
        // 0 takes from 3, and 4 wins
        RankedVotes z = Votes.election(0, 40, 5, 35, 14, 25, 4);
        Check.due("0 takes from 3: winner(0)", z.winner(0), 4);
        Check.due("0 takes from 3: spoilers(0)", z.spoilers(0), 1);
        // one who is withdrawn already takes nothing
        x.setStanding(1, false);
        Check.due("1 is withdrawn: winner(0)", x.winner(0), 2);
        Check.due("1 is withdrawn: spoilers(0)", x.spoilers(0), 0);
        Check.due("no groups: spoilers(0)", new RankedVotes().spoilers(0), 0);
        Check.due("two stand: spoilers(0)", Votes.election(7, 5, 4, 5, 5).spoilers(0), 0);
        Check.due("all four others: spoilers(0)", Votes.election(0, 5, 2, 4, 13, 4, 34, 4, 43, 4, 51).spoilers(0), 29);
    }

    private static void splitAtTheFirst() {
        Check.sentence("The groups can be split at k if the groups 0 to k - 1 alone, and the other ones alone, would have "
            + "the same winner, and this is not w.");
        // by Coombs group 0 and the others would both have 2, but all have 1: see splitAtTheLast()
        Check.due("at 1: winner(7)", three(1, 321, 2, 312, 2, 231, 1, 123).winner(7), 1);
        Check.due("at 1: split(7)", three(1, 321, 2, 312, 2, 231, 1, 123).split(7), 1);
        RankedVotes z = three(4, 123, 4, 321, 7, 321, 7, 132);
        Check.due("at 2: split(7)", z.split(7), 2);
    }

    private static void splitAtTheLast() {
        Check.sentence("Returns the smallest k, from 1 to the number of groups - 1, at which they can; NONE if there is "
            + "none;");
        // on the whole 0 is the last one of three, then 1 and 2 are equal, and 2 leaves; among the first
        // three groups 0 and 1 are the last ones of two each, 1 leaves, and 2 wins, as it does in group 3
        RankedVotes x = three(2, 312, 2, 231, 1, 123, 1, 321);
        Check.due("at 3: winner(7)", x.winner(7), 1);
        Check.due("at 3: split(7)", x.split(7), 3);
        // groups 16 to 18 are a circle, of which 0 is the lowest one, as it is the first one of group 19;
        // on the whole 2 beats 0 and 1 by 10 to 7
        RankedVotes y = behind(16, 4, 231, 6, 312, 3, 123, 4, 132);
        Check.due("at 19: winner(2)", y.winner(2), 2);
        Check.due("at 19: split(2)", y.split(2), 19);
        y.removeGroup(19);
        Check.due("without it: split(2)", y.split(2), NONE);
        Check.due("one group: split(7)", three(5, 321).split(7), NONE);
        Check.due("no groups: split(7)", three().split(7), NONE);
    }

    private static void splitNeedsAnother() {
        Check.sentence("would have the same winner, and this is not w.");
        // both parts have the winner of the whole, or winners that are not the same
        for (int rule = 0; rule < Votes.RULES; rule++) {
            Check.due("of one mind: split(" + rule + ")", three(5, 321, 4, 321).split(rule), NONE);
            Check.due("of two minds: split(" + rule + ")", three(5, 321, 4, 123).split(rule), NONE);
        }
    }

    private static void removalOfOne() {
        Check.sentence("Taking away v voters of one group, of at least v, is enough if the winner is not w any more then.");
        // 5 to 5 is no win of 1 any more
        Check.due("6 to 5: removals(0)", three(6, 2, 5, 1).removals(0), 1);
        Check.due("5 to 5 for 0: removals(0)", three(5, 2, 5, 1).removals(0), 1);
        Check.due("6 to 5 for 0: removals(0)", three(5, 2, 6, 1).removals(0), 2);
        Check.due("100 to 1: removals(0)", three(100, 2, 1, 1).removals(0), 99);
        Check.due("100 to none: removals(0)", three(100, 2).removals(0), 100);
        Check.due("100 to none for 0: removals(0)", three(100, 1).removals(0), NONE);
        Check.due("1 to none: removals(0)", three(1, 2).removals(0), 1);
        RankedVotes x = behind(18, 9, 1, 12, 2);
        Check.due("group 19: removals(0)", x.removals(0), 3);
    }

    private static void removalOfWholeGroup() {
        Check.sentence("(A group all of whose voters are taken away is not there.)");
        // 0 is the first one of 6 of 13; without both voters who rank nobody it is of 6 of 11
        RankedVotes x = Votes.election(28, 6, 12, 1, 2, 1, 2, 1, 2, 1, 2, 1, 2, 2, 5);
        Check.due("6 of 13: winner(8)", x.winner(8), 1);
        Check.due("6 of 13: removals(8)", x.removals(8), 2);
        x.removeGroup(6);
        Check.due("6 of 11: winner(8)", x.winner(8), 0);
        // without the only group there is none, and the lowest one wins
        for (int rule = 0; rule < Votes.RULES; rule++) {
            Check.due("only group: removals(" + rule + ") at most all", three(5, 321).removals(rule), 5);
            Check.due("only group: winner(" + rule + ") without", three().winner(rule), 0);
        }
    }

    private static void removalsOfAtLeast() {
        Check.sentence("Returns the smallest number; NONE if no number is enough;");
        // 2 of any group of 1 to 4 were enough, but the groups for 1 have one voter each
        Check.due("groups of one: removals(0)", three(1, 2, 1, 2, 1, 2, 1, 1).removals(0), NONE);
        Check.due("one of two: removals(0)", three(1, 2, 2, 2, 1, 1).removals(0), 2);
        // the smallest one of all groups, whichever is first
        Check.due("first group: removals(0)", three(3, 2, 1, 2, 2, 1).removals(0), 2);
        Check.due("last group: removals(0)", three(2, 1, 1, 2, 3, 2).removals(0), 2);
        Check.due("no groups: removals(0)", three().removals(0), NONE);
    }

    private static void oneOrNobodyStands() {
        Check.sentence("In each case w is the winner of the rule as everything is.");
        for (int withdrawn : new int[] {15, 23, 27, 29, 30, 31}) {
            RankedVotes x = Votes.election(withdrawn, 5, 12345, 4, 54321, 3, 3);
            for (int rule = 0; rule < Votes.RULES; rule++) {
                String name = "without " + withdrawn + ", rule " + rule + ": ";
                Check.due(name + "strategy", x.strategy(rule, 0), NONE);
                Check.due(name + "strategyAt", x.strategyAt(rule, 1, 0), withdrawn == 31 ? BAD_INDEX : NONE);
                Check.due(name + "strategists", x.strategists(rule), 0);
                Check.due(name + "absentees", x.absentees(rule), 0);
                Check.due(name + "raisers", x.raisers(rule), 0);
                Check.due(name + "spoilers", x.spoilers(rule), 0);
                Check.due(name + "split", x.split(rule), NONE);
                Check.due(name + "removals", x.removals(rule), NONE);
            }
        }
    }
}
