import java.util.ArrayList;
import java.util.List;

/** The sentences that bound the twelve rules, with promises 13 to 15 and 26 at their edges. */
public final class RulesEdgeTest {
    private static final int NONE = Votes.NONE, BAD_INDEX = Votes.BAD_INDEX, BAD_STATE = Votes.BAD_STATE;

    public static void main(String[] args) {
        emptyOnlyIfNobodyStands();
        ofOneMind();
        theLastGroupCounts();
        plurality();
        borda();
        copeland();
        minimax();
        minimaxAlone();
        schulzeEqual();
        schulzeCountsVoters();
        schulzeLongestPath();
        rankedPairsInTheirOrder();
        rankedPairsLongCircle();
        rankedPairsEqualVotes();
        runoffGreatestNumberLeaves();
        runoffUntilOneIsLeft();
        coombsJustHalf();
        coombsEmptyBallots();
        coombsBallotsThatGetEmpty();
        coombsLastOnes();
        coombsTies();
        bucklinJustHalf();
        bucklinLastPlace();
        bucklinEmptyBallots();
        black();
        nansonAverageStays();
        nansonAllEqual();
        kemenyTies();
        winnerWithLowestNumber();
        ruleNumbers();
        pointsOfWhichRules();
        favouriteOfSeveral();
        favouriteByEachRule();
        Check.finish();
    }

    private static void dueWinners(String name, RankedVotes x, int rule, int due) {
        Check.due(name + ": winners(" + rule + ")", x.winners(rule), due);
        Check.due(name + ": winner(" + rule + ")", x.winner(rule), Integer.numberOfTrailingZeros(due));
    }

    private static void duePoints(String name, RankedVotes x, int rule, int... due) {
        for (int c = 0; c < due.length; c++) {
            Check.due(name + ": points(" + rule + ", " + c + ")", x.points(rule, c), due[c]);
        }
    }

    private static void emptyOnlyIfNobodyStands() {
        Check.sentence("Each rule gives a set of winners, which is empty only if no candidate stands:");
        int[][] elections = {{}, {1, 12345}, {5, 123, 4, 345, 3, 51}, {2, 1, 2, 2, 2, 3, 2, 4, 2, 5},
            {1, 12345, 1, 23451, 1, 34512, 1, 45123, 1, 51234}};
        for (int withdrawn = 0; withdrawn < 32; withdrawn++) {
            for (int[] votes : elections) {
                RankedVotes x = Votes.election(withdrawn, votes);
                for (int rule = 0; rule < Votes.RULES; rule++) {
                    int found = x.winners(rule);
                    String call = "without " + withdrawn + ", " + votes.length / 2 + " groups: winners(" + rule + ")";
                    Check.due(call + " is empty", found == 0 ? 1 : 0, withdrawn == 31 ? 1 : 0);
                    Check.due(call + " of those who stand", found & withdrawn, 0);
                    int lowest = found == 0 ? NONE : Integer.numberOfTrailingZeros(found);
                    Check.due(call + "'s lowest one", x.winner(rule), lowest);
                }
            }
        }
    }

    private static void ofOneMind() {
        Check.sentence("a candidate ranked earlier is preferred.");
        for (int order = 0; order < 120; order++) {
            int ballot = 0;
            int first = 0;
            for (int digit : permutation(order)) {
                first = ballot == 0 ? digit - 1 : first;
                ballot = ballot * 10 + digit;
            }
            RankedVotes x = Votes.election(0, 2, ballot);
            for (int rule = 0; rule < Votes.RULES; rule++) {
                dueWinners("two voters for " + ballot, x, rule, 1 << first);
            }
        }
    }

    private static void theLastGroupCounts() {
        Check.sentence("There are at most 20 groups of voters, numbered from 0;");
        // all other groups have empty ballots
        for (int group = 0; group < 20; group++) {
            RankedVotes x = Votes.election(24);
            for (int g = 0; g < 20; g++) {
                x.addGroup(g == group ? 30 : 1, g == group ? 321 : 5);
            }
            for (int rule = 0; rule < Votes.RULES; rule++) {
                dueWinners("group " + group + " of 20", x, rule, 4);
            }
            duePoints("group " + group + " of 20", x, 8, 0, 0, 30, BAD_STATE);
            // 30 against 30: there is no majority, and the last one of the empty ballots is 2
            int other = group == 0 ? 19 : group - 1;
            x.removeGroup(other);
            x.addGroup(30, 123);
            String name = "group " + group + " against another: ";
            int[] lasts = {30, 0, 48};
            int[] firsts = {30, 0, 30};
            for (int c = 0; c < 3; c++) {
                Check.due(name + "tally(7, 0, " + c + ")", x.tally(7, 0, c), lasts[c]);
                Check.due(name + "tally(6, 0, " + c + ")", x.tally(6, 0, c), firsts[c]);
            }
            duePoints(name + "by Bucklin", x, 8, 30, 60, 30, BAD_STATE);
        }
    }

    private static void plurality() {
        Check.sentence("0 plurality: the points of a are the number of voters who rank it first. "
            + "The candidates with most points win.");
        RankedVotes x = Votes.election(0, 5, 41, 5, 21, 4, 3, 1, 51);
        duePoints("5, 5 and 4", x, 0, 0, 5, 4, 5, 1);
        dueWinners("5, 5 and 4", x, 0, 10);
        x.setVoters(0, 6);
        dueWinners("6, 5 and 4", x, 0, 8);
        x.setVoters(0, 4);
        dueWinners("4, 5 and 4", x, 0, 2);
        dueWinners("no groups", new RankedVotes(), 0, 31);
        // nobody ranks one who stands
        dueWinners("empty ballots", Votes.election(3, 5, 1, 4, 2), 0, 28);
    }

    private static void borda() {
        Check.sentence("with m candidates in A, a voter gives 2 * (m - 1 - p) points to the candidate at place p of the "
            + "ballot, from 0 on, and k - 1 points to each one not on it, if there are k of these.");
        duePoints("all on it", Votes.election(0, 1, 12345), 1, 8, 6, 4, 2, 0);
        duePoints("one not on it", Votes.election(0, 1, 1234), 1, 8, 6, 4, 2, 0);
        duePoints("two not on it", Votes.election(0, 1, 123), 1, 8, 6, 4, 1, 1);
        duePoints("three not on it", Votes.election(0, 1, 12), 1, 8, 6, 2, 2, 2);
        duePoints("four not on it", Votes.election(0, 1, 1), 1, 8, 3, 3, 3, 3);
        duePoints("none on it", Votes.election(16, 1, 5), 1, 3, 3, 3, 3, BAD_STATE);
        duePoints("two stand, one not on it", Votes.election(28, 1, 1), 1, 2, 0, BAD_STATE);
        duePoints("two stand, none on it", Votes.election(28, 1, 3), 1, 1, 1, BAD_STATE);
        duePoints("one stands, on it", Votes.election(30, 1, 1), 1, 0, BAD_STATE);
        duePoints("one stands, not on it", Votes.election(30, 1, 5), 1, 0, BAD_STATE);
        duePoints("no groups", new RankedVotes(), 1, 0, 0, 0, 0, 0);
        dueWinners("none on it", Votes.election(16, 1, 5), 1, 15);
        dueWinners("equal", Votes.election(0, 1, 12345, 1, 54321), 1, 31);
    }

    private static void copeland() {
        Check.sentence("the points of a are 2 for each other candidate of A that it beats, and 1 for each other one with "
            + "which it has P(a, b) = P(b, a).");
        duePoints("all on it", Votes.election(0, 1, 12345), 2, 8, 6, 4, 2, 0);
        duePoints("two not on it", Votes.election(0, 1, 123), 2, 8, 6, 4, 1, 1);
        duePoints("no groups", new RankedVotes(), 2, 4, 4, 4, 4, 4);
        duePoints("one stands", Votes.election(30, 1, 1), 2, 0, BAD_STATE);
        RankedVotes x = Votes.election(28, 50, 12, 50, 21);
        duePoints("50 against 50", x, 2, 1, 1, BAD_STATE);
        x.setVoters(0, 51);
        duePoints("51 against 50", x, 2, 2, 0, BAD_STATE);
        x.setVoters(0, 49);
        duePoints("49 against 50", x, 2, 0, 2, BAD_STATE);
        dueWinners("50 against 50", Votes.election(28, 50, 12, 50, 21), 2, 3);
    }

    private static void minimax() {
        Check.sentence("the points of a are the greatest P(b, a) - P(a, b) for the other candidates b of A");
        // 0 leads 1 by 3 and 2 by 5: the greatest one is -3
        RankedVotes x = Votes.election(24, 4, 123, 1, 213);
        duePoints("0 leads all", x, 3, -3, 3, 5, BAD_STATE);
        dueWinners("0 leads all", x, 3, 1);
        duePoints("12345", Votes.election(0, 6, 12345), 3, -6, 6, 6, 6, 6);
        duePoints("54321", Votes.election(0, 6, 54321), 3, 6, 6, 6, 6, -6);
        duePoints("no groups", new RankedVotes(), 3, 0, 0, 0, 0, 0);
        dueWinners("no groups", new RankedVotes(), 3, 31);
        dueWinners("equal", Votes.election(24, 2, 12, 2, 21), 3, 3);
    }

    private static void minimaxAlone() {
        Check.sentence("or 0 if there is none. The candidates with fewest points win.");
        for (int c = 0; c < 5; c++) {
            RankedVotes x = Votes.election(31 - (1 << c), 9, 12345, 5, 5);
            Check.due("only " + c + " stands: points(3, " + c + ")", x.points(3, c), 0);
            dueWinners("only " + c + " stands", x, 3, 1 << c);
        }
    }

    private static void schulzeEqual() {
        Check.sentence("a wins if s(a, b) >= s(b, a) for all other b of A.");
        RankedVotes x = new RankedVotes();
        Votes.lead(x, 0, 1, 3);
        Votes.lead(x, 1, 2, 3);
        Votes.lead(x, 2, 0, 3);
        // 3 and 4 have the same strength, 0, from and to all others
        dueWinners("circle of three", x, 4, 31);
        x.setVoters(0, 4);
        x.setVoters(1, 4);
        // half of 20 and 4 of the direct way against half of 20 and 3 of the one by 2; all others are equal
        Check.due("strength(0, 1)", x.strength(0, 1), 14);
        Check.due("strength(1, 0)", x.strength(1, 0), 13);
        dueWinners("0 over 1 by one more", x, 4, 29);
        dueWinners("no groups", new RankedVotes(), 4, 31);
    }

    private static void schulzeCountsVoters() {
        Check.sentence("let d(a, b) be P(a, b) if a beats b, otherwise 0.");
        // 3 against 2, and 2 against 2: P, not the lead, and nothing where none beats the other
        RankedVotes x = Votes.election(28, 3, 12, 2, 21);
        Check.due("3 against 2: strength(0, 1)", x.strength(0, 1), 3);
        Check.due("3 against 2: strength(1, 0)", x.strength(1, 0), 0);
        x.setVoters(0, 2);
        Check.due("2 against 2: strength(0, 1)", x.strength(0, 1), 0);
        Check.due("2 against 2: strength(1, 0)", x.strength(1, 0), 0);
    }

    private static void schulzeLongestPath() {
        Check.sentence("The strength of a path from a to b, a sequence of different candidates of A that begins with a "
            + "and ends with b, is the least d of two that follow one another in it.");
        int[][] ways = {{0, 1, 2, 3, 4}, {4, 3, 2, 1, 0}, {2, 0, 4, 1, 3}, {1, 4, 0, 3, 2}, {3, 0, 1, 4, 2}};
        for (int[] way : ways) {
            for (int weak = 0; weak < 4; weak++) {
                RankedVotes x = new RankedVotes();
                for (int i = 0; i < 4; i++) {
                    Votes.lead(x, way[i], way[i + 1], i == weak ? 2 : 3 + i);
                }
                int half = x.allVoters() / 2;
                String call = "way from " + way[0] + " by all, weak at " + weak + ": strength";
                Check.due(call, x.strength(way[0], way[4]), half + 2);
                Check.due(call + " back", x.strength(way[4], way[0]), 0);
                // the direct way counts if it is stronger, and only then
                Votes.lead(x, way[0], way[4], 1);
                Check.due(call + " with a weaker direct way", x.strength(way[0], way[4]), half + 1 + 2);
                x.setVoters(8, 9);
                x.setVoters(9, 9);
                Check.due(call + " with a stronger direct way", x.strength(way[0], way[4]), half + 9 + 9);
                x.setStanding(way[2], false);
                Check.due(call + " without the middle", x.strength(way[1], way[3]), 0);
            }
        }
    }

    private static void rankedPairsInTheirOrder() {
        Check.sentence("the pairs (a, b) in which a beats b are gone through by descending P(a, b) - P(b, a), equal ones "
            + "by ascending a, then by ascending b.");
        // a circle of three: the weakest pair is not locked, of several the one with the greatest a
        int[][] voters = {{2, 2, 2}, {1, 2, 2}, {2, 1, 2}, {2, 2, 1}, {1, 1, 2}, {1, 2, 1}, {2, 1, 1}};
        int[] open = {2, 0, 1, 2, 1, 2, 2};
        for (int i = 0; i < voters.length; i++) {
            RankedVotes x = new RankedVotes();
            for (int a = 0; a < 3; a++) {
                Votes.lead(x, a, (a + 1) % 3, voters[i][a]);
            }
            int winners = 31;
            for (int a = 0; a < 3; a++) {
                int b = (a + 1) % 3;
                Check.due("circle " + i + ": isLocked(" + a + ", " + b + ")", x.isLocked(a, b), a == open[i] ? 0 : 1);
                Check.due("circle " + i + ": isLocked(" + b + ", " + a + ")", x.isLocked(b, a), 0);
                winners &= a == open[i] ? 31 : ~(1 << b);
            }
            dueWinners("circle " + i, x, 5, winners);
        }
    }

    private static void rankedPairsLongCircle() {
        Check.sentence("A pair is locked unless one can already come from b to a by locked pairs.");
        // in whatever order the others were locked before, the weakest pair of the circle is not
        for (int order = 0; order < 120; order++) {
            int[] voters = permutation(order);
            RankedVotes x = new RankedVotes();
            int weakest = 0;
            for (int a = 0; a < 5; a++) {
                Votes.lead(x, a, (a + 1) % 5, voters[a]);
                weakest = voters[a] == 1 ? a : weakest;
            }
            for (int a = 0; a < 5; a++) {
                int b = (a + 1) % 5;
                Check.due("order " + order + ": isLocked(" + a + ", " + b + ")", x.isLocked(a, b), a == weakest ? 0 : 1);
            }
            dueWinners("order " + order, x, 5, 1 << (weakest + 1) % 5);
        }
    }

    /** The numbers 1 to 5 in one of their 120 orders. */
    private static int[] permutation(int number) {
        List<Integer> left = new ArrayList<>(List.of(1, 2, 3, 4, 5));
        int[] found = new int[5];
        int rest = number;
        for (int i = 0; i < 5; i++) {
            found[i] = left.remove(rest % left.size());
            rest /= 5 - i;
        }
        return found;
    }

    private static void rankedPairsEqualVotes() {
        Check.sentence("a wins if no pair (b, a) is locked.");
        RankedVotes x = Votes.election(28, 50, 12, 50, 21);
        Check.due("50 against 50: isLocked(0, 1)", x.isLocked(0, 1), 0);
        Check.due("50 against 50: isLocked(1, 0)", x.isLocked(1, 0), 0);
        dueWinners("50 against 50", x, 5, 3);
        x.setVoters(1, 51);
        Check.due("50 against 51: isLocked(0, 1)", x.isLocked(0, 1), 0);
        Check.due("50 against 51: isLocked(1, 0)", x.isLocked(1, 0), 1);
        dueWinners("50 against 51", x, 5, 2);
        dueWinners("no groups", new RankedVotes(), 5, 31);
        RankedVotes y = new RankedVotes();
        Votes.lead(y, 0, 1, 1);
        dueWinners("0 over 1", y, 5, 29);
        Check.sentence("Returns 1 if (a, b) is locked, else 0;");
        for (int c = 0; c < 5; c++) {
            Check.due("0 over 1: isLocked(" + c + ", " + c + ")", y.isLocked(c, c), 0);
        }
    }

    private static void runoffGreatestNumberLeaves() {
        Check.sentence("the one with the smallest tally, of several the one with the greatest number, leaves C.");
        RankedVotes x = Votes.election(0, 2, 1, 1, 2, 2, 3, 1, 4, 3, 5);
        int[] leavers = {3, 1, 2, 0};
        for (int round = 0; round < 4; round++) {
            Check.due("2, 1, 2, 1, 3: leaves(6, " + round + ")", x.leaves(6, round), leavers[round]);
        }
        dueWinners("2, 1, 2, 1, 3", x, 6, 16);
        RankedVotes none = new RankedVotes();
        for (int round = 0; round < 4; round++) {
            Check.due("no groups: leaves(6, " + round + ")", none.leaves(6, round), 4 - round);
            Check.due("no groups: tally(6, " + round + ", 0)", none.tally(6, round, 0), 0);
        }
        dueWinners("no groups", none, 6, 1);
        dueWinners("equal to the end", Votes.election(14, 50, 1, 50, 5), 6, 1);
        dueWinners("one more to the end", Votes.election(14, 50, 1, 51, 5), 6, 16);
    }

    private static void runoffUntilOneIsLeft() {
        Check.sentence("As long as C has more than one candidate, in each round the tally of a candidate is the number of "
            + "voters who rank it first (of those in C)");
        // a majority does not end it before
        Check.due("all for 3: rounds(6)", Votes.election(0, 100, 4).rounds(6), 4);
        for (int withdrawn = 0; withdrawn < 32; withdrawn++) {
            int stand = 5 - Integer.bitCount(withdrawn);
            RankedVotes x = Votes.election(withdrawn, 5, 13524, 2, 4);
            Check.due("without " + withdrawn + ": rounds(6)", x.rounds(6), Math.max(0, stand - 1));
            Check.due("without " + withdrawn + ": leaves(6) behind the last", x.leaves(6, Math.max(0, stand - 1)),
                BAD_INDEX);
        }
        // the votes for those who left go to the next ones, who may be several places behind
        RankedVotes y = Votes.election(0, 1, 54321, 2, 43, 3, 31, 4, 2, 4, 1);
        int[][] due = {{4, 4, 3, 2, 1}, {4, 4, 3, 3, NONE}, {4, 4, 6, NONE, NONE}, {4, NONE, 6, NONE, NONE}};
        for (int round = 0; round < 4; round++) {
            for (int c = 0; c < 5; c++) {
                Check.due("tally(6, " + round + ", " + c + ")", y.tally(6, round, c), due[round][c]);
            }
        }
        dueWinners("next ones", y, 6, 4);
    }

    private static void coombsJustHalf() {
        Check.sentence("if the number of voters who rank some candidate first (of those in C), doubled, is greater than "
            + "the number of voters whose ballots are not empty (without those not in C), this candidate wins, and that "
            + "is the end.");
        RankedVotes x = Votes.election(24, 5, 123, 3, 231, 2, 321);
        // 5 of 10 are not more than half, neither at first nor when 2, the last one of 5, has left
        Check.due("5 of 10: rounds(7)", x.rounds(7), 2);
        x.setVoters(0, 6);
        Check.due("6 of 11: rounds(7)", x.rounds(7), 0);
        dueWinners("6 of 11", x, 7, 1);
        Check.due("6 of 11: leaves(7, 0)", x.leaves(7, 0), BAD_INDEX);
        x.setVoters(0, 4);
        Check.due("4 of 9: rounds(7)", x.rounds(7), 1);
        dueWinners("4 of 9", x, 7, 2);
    }

    private static void coombsEmptyBallots() {
        Check.sentence("the number of voters whose ballots are not empty (without those not in C)");
        RankedVotes x = Votes.election(28, 3, 1, 2, 2, 90, 5);
        Check.due("3 of 5 and 90 empty ones: rounds(7)", x.rounds(7), 0);
        dueWinners("3 of 5 and 90 empty ones", x, 7, 1);
        x.setVoters(0, 2);
        // 2 of 4: the last one of the empty ballots is 1
        Check.due("2 of 4 and 90 empty ones: rounds(7)", x.rounds(7), 1);
        Check.due("2 of 4 and 90 empty ones: tally(7, 0, 1)", x.tally(7, 0, 1), 92);
        Check.due("2 of 4 and 90 empty ones: tally(7, 0, 0)", x.tally(7, 0, 0), 2);
        dueWinners("2 of 4 and 90 empty ones", x, 7, 1);
        RankedVotes one = Votes.election(28, 1, 2, 90, 5);
        Check.due("1 of 1 and 90 empty ones: rounds(7)", one.rounds(7), 0);
        dueWinners("1 of 1 and 90 empty ones", one, 7, 2);
    }

    private static void coombsBallotsThatGetEmpty() {
        Check.sentence("In each round, as long as C has more than one candidate:");
        // 4 of 10 have 0; when 2 has left, they are 4 of 7 that are not empty
        RankedVotes x = Votes.election(24, 4, 1, 3, 2, 3, 3);
        Check.due("rounds(7)", x.rounds(7), 1);
        Check.due("leaves(7, 0)", x.leaves(7, 0), 2);
        dueWinners("4 of 7 at last", x, 7, 1);
        // 3 of 6 are no majority then: 1 is the last one of 3 and of the empty one, 0 of 3
        RankedVotes y = Votes.election(24, 3, 1, 3, 2, 1, 3);
        Check.due("3 of 6 at last: rounds(7)", y.rounds(7), 2);
        Check.due("3 of 6 at last: tally(7, 1, 1)", y.tally(7, 1, 1), 4);
        Check.due("3 of 6 at last: tally(7, 1, 0)", y.tally(7, 1, 0), 3);
        Check.due("3 of 6 at last: tally(7, 1, 2)", y.tally(7, 1, 2), NONE);
        dueWinners("3 of 6 at last", y, 7, 1);
        for (int c = 0; c < 5; c++) {
            RankedVotes z = Votes.election(31 - (1 << c), 5, 1 + (c + 1) % 5);
            Check.due("only " + c + " stands, on no ballot: rounds(7)", z.rounds(7), 0);
            dueWinners("only " + c + " stands, on no ballot", z, 7, 1 << c);
        }
    }

    private static void coombsLastOnes() {
        Check.sentence("the last one of the ballot, if all candidates of C are on it, otherwise the candidate of C not on "
            + "it that has the greatest number.");
        // no majority: 6 voters for 4, and 7 for each one of two others
        int[] ballots = {12345, 1234, 1235, 1253, 123, 125, 12, 15, 1, 51};
        int[] lasts = {4, 4, 3, 3, 4, 3, 4, 3, 4, 3};
        for (int i = 0; i < ballots.length; i++) {
            RankedVotes x = Votes.election(0, 6, ballots[i], 7, 23451, 7, 34521);
            for (int c = 0; c < 5; c++) {
                int due = (c == 0 ? 14 : 0) + (c == lasts[i] ? 6 : 0);
                Check.due(ballots[i] + ": tally(7, 0, " + c + ")", x.tally(7, 0, c), due);
            }
        }
        // without 4 the ballot has all of C, and its last one is 2
        RankedVotes y = Votes.election(16, 6, 1243, 7, 2341, 7, 3421);
        Check.due("1243 without 4: tally(7, 0, 2)", y.tally(7, 0, 2), 6);
        RankedVotes z = Votes.election(16, 6, 51243, 7, 2341, 7, 3421);
        Check.due("51243 without 4: tally(7, 0, 2)", z.tally(7, 0, 2), 6);
    }

    private static void coombsTies() {
        Check.sentence("The candidate with the greatest tally, of several the one with the greatest number, leaves C.");
        RankedVotes x = Votes.election(24, 2, 132, 2, 231, 1, 312);
        // 1 is the last one of 2 and 1, 0 of 2
        Check.due("3 and 2: leaves(7, 0)", x.leaves(7, 0), 1);
        x.removeGroup(2);
        // 1 and 0 are the last ones of 2 each
        Check.due("2 and 2: leaves(7, 0)", x.leaves(7, 0), 1);
        Check.due("2 and 2: tally(7, 0, 2)", x.tally(7, 0, 2), 0);
        RankedVotes none = new RankedVotes();
        Check.due("no groups: rounds(7)", none.rounds(7), 4);
        for (int round = 0; round < 4; round++) {
            Check.due("no groups: leaves(7, " + round + ")", none.leaves(7, round), 4 - round);
        }
        dueWinners("no groups", none, 7, 1);
    }

    private static void bucklinJustHalf() {
        Check.sentence("The first k is taken with which the points of some candidate, doubled, are greater than n;");
        // 5 of 10 are not more than half, 6 of 11 are
        RankedVotes x = Votes.election(24, 5, 12, 5, 32);
        duePoints("5 of 10", x, 8, 5, 10, 5, BAD_STATE);
        dueWinners("5 of 10", x, 8, 2);
        x.setVoters(0, 6);
        duePoints("6 of 11", x, 8, 6, 0, 5, BAD_STATE);
        dueWinners("6 of 11", x, 8, 1);
        // one with more than half is enough, but all with most points win
        RankedVotes y = Votes.election(0, 1, 12, 1, 21, 1, 345);
        duePoints("2 of 3 twice", y, 8, 2, 2, 1, 1, 0);
        dueWinners("2 of 3 twice", y, 8, 3);
        // two voters agree at the place k for the first time
        for (int k = 1; k <= 5; k++) {
            RankedVotes z = Votes.election(0, 1, 12345, 1, k);
            for (int c = 0; c < 5; c++) {
                int due = c < k - 1 ? 1 : c == k - 1 ? 2 : 0;
                Check.due("k is " + k + ": points(8, " + c + ")", z.points(8, c), due);
            }
            dueWinners("k is " + k, z, 8, 1 << k - 1);
        }
    }

    private static void bucklinLastPlace() {
        Check.sentence("if there is none, the last k. The candidates with most points win.");
        // no candidate is on more than half of the ballots
        RankedVotes x = Votes.election(0, 1, 1, 1, 2, 1, 345);
        duePoints("one each", x, 8, 1, 1, 1, 1, 1);
        dueWinners("one each", x, 8, 31);
        RankedVotes y = Votes.election(0, 2, 12345, 2, 1, 6, 5, 2, 4);
        // 4 has 6 of 12 at first, and 8 with the fifth place, when k is 5
        duePoints("fifth place", y, 8, 4, 2, 2, 4, 8);
        dueWinners("fifth place", y, 8, 16);
        RankedVotes z = Votes.election(0, 2, 12345, 2, 1, 4, 5, 5, 4);
        duePoints("fourth place", z, 8, 4, 2, 2, 7, 4);
        dueWinners("fourth place", z, 8, 8);
        duePoints("no groups", new RankedVotes(), 8, 0, 0, 0, 0, 0);
        dueWinners("no groups", new RankedVotes(), 8, 31);
        for (int c = 0; c < 5; c++) {
            RankedVotes one = Votes.election(31 - (1 << c), 5, c + 1, 7, 1 + (c + 1) % 5);
            Check.due("only " + c + " stands: points(8, " + c + ")", one.points(8, c), 5);
        }
    }

    private static void bucklinEmptyBallots() {
        Check.sentence("the points of a are the number of voters who have it among the first k of the ballot.");
        // n is 10 with the empty ballots: 5 are not more than half, so that second places count
        RankedVotes x = Votes.election(24, 5, 12, 3, 32, 2, 5);
        duePoints("5 of 10 with empty ones", x, 8, 5, 8, 3, BAD_STATE);
        x.setVoters(2, 1);
        duePoints("5 of 9 with empty ones", x, 8, 5, 0, 3, BAD_STATE);
        // those who do not stand have no place
        RankedVotes y = Votes.election(24, 5, 4512, 4, 3);
        duePoints("places of those who stand", y, 8, 5, 0, 4, BAD_STATE);
    }

    private static void black() {
        Check.sentence("9 Black: if a candidate beats all others of A, it wins alone; otherwise the winners of rule 1 win.");
        // 0 beats 1 and 2 with 3 to 2, and has 12 points to 14
        RankedVotes x = Votes.election(24, 3, 123, 2, 231);
        dueWinners("one more than half", x, 9, 1);
        dueWinners("one more than half", x, 1, 2);
        x.setVoters(0, 2);
        // 2 to 2 is no longer beating: 1 has 4 + 8, 0 has 8, and 2 has 4
        dueWinners("just half", x, 9, 2);
        // 0 and 2 beat 1, but not each other, and 2 has 18 points to 16
        RankedVotes y = Votes.election(24, 2, 312, 3, 132, 1, 321);
        Check.due("equal with one: pair(0, 2)", y.pair(0, 2), 3);
        Check.due("equal with one: pair(2, 0)", y.pair(2, 0), 3);
        duePoints("equal with one", y, 1, 16, 2, 18, BAD_STATE);
        dueWinners("equal with one", y, 9, 4);
        // of rule 1 all winners win
        dueWinners("circle", Votes.election(24, 1, 123, 1, 231, 1, 312), 9, 7);
        dueWinners("no groups", new RankedVotes(), 9, 31);
        dueWinners("one stands", Votes.election(23, 5, 1), 9, 8);
    }

    private static void nansonAverageStays() {
        Check.sentence("Otherwise all candidates whose points, times the number of candidates in C, are less than the sum "
            + "of the points of all, leave C.");
        // 12, 10 and 8 of 30 points: 2 leaves, 1 has just the average and stays; then 1 beats 0
        RankedVotes x = Votes.election(24, 2, 132, 2, 213, 1, 321);
        duePoints("12, 10 and 8", x, 1, 12, 10, 8, BAD_STATE);
        dueWinners("12, 10 and 8", x, 10, 2);
        // 1 is below the average by one voter
        RankedVotes y = Votes.election(24, 2, 132, 2, 213, 1, 321, 1, 132);
        duePoints("16, 10 and 10", y, 1, 16, 10, 10, BAD_STATE);
        dueWinners("16, 10 and 10", y, 10, 1);
        // the points are taken anew among those who are left, also where ballots get shorter
        RankedVotes z = Votes.election(0, 3, 23, 4, 32, 1, 1);
        dueWinners("again and again", z, 10, 4);
    }

    private static void nansonAllEqual() {
        Check.sentence("If all are equal, all of C win.");
        dueWinners("no groups", new RankedVotes(), 10, 31);
        dueWinners("circle", Votes.election(24, 1, 123, 1, 231, 1, 312), 10, 7);
        dueWinners("one stands", Votes.election(15, 5, 1), 10, 16);
        // 2 leaves, then 0 and 1 are equal
        dueWinners("two of three", Votes.election(24, 1, 12, 1, 21), 10, 3);
    }

    private static void kemenyTies() {
        Check.sentence("A candidate wins if it comes first in an order with the greatest value.");
        dueWinners("no groups", new RankedVotes(), 11, 31);
        dueWinners("equal", Votes.election(28, 5, 12, 5, 21), 11, 3);
        dueWinners("one more", Votes.election(28, 5, 12, 6, 21), 11, 2);
        // 0 over 1 and 1 over 2 have a lead of 4 each, 2 over 0 of 2: only 0, 1, 2 has the greatest value
        RankedVotes x = new RankedVotes();
        x.setStanding(3, false);
        x.setStanding(4, false);
        Votes.lead(x, 0, 1, 2);
        Votes.lead(x, 1, 2, 2);
        Votes.lead(x, 2, 0, 1);
        dueWinners("circle", x, 11, 1);
        x.setVoters(4, 2);
        x.setVoters(5, 2);
        dueWinners("even circle", x, 11, 7);
        x.setVoters(4, 3);
        x.setVoters(5, 3);
        // 2, 0, 1 and 1, 2, 0 lose one of the weaker leads each, so that 0 can't come first
        dueWinners("turned circle", x, 11, 6);
    }

    private static void winnerWithLowestNumber() {
        Check.sentence("The winner, of a rule, is the winner with the lowest number.");
        for (int withdrawn = 0; withdrawn < 31; withdrawn++) {
            RankedVotes x = Votes.election(withdrawn);
            int lowest = Integer.numberOfTrailingZeros(31 - withdrawn);
            for (int rule = 0; rule < Votes.RULES; rule++) {
                Check.due("no groups without " + withdrawn + ": winner(" + rule + ")", x.winner(rule), lowest);
            }
        }
        Check.sentence("Returns the winner; NONE if no candidate stands; BAD_INDEX if there is no such rule.");
        RankedVotes nobody = Votes.election(31, 5, 12345);
        for (int rule = 0; rule < Votes.RULES; rule++) {
            Check.due("nobody stands: winner(" + rule + ")", nobody.winner(rule), NONE);
        }
        for (int rule : Votes.outside(12)) {
            Check.due("nobody stands: winner(" + rule + ")", nobody.winner(rule), BAD_INDEX);
        }
    }

    private static void ruleNumbers() {
        Check.sentence("- `rule`: number of the rule, 0 to 11");
        RankedVotes x = Votes.election(24, 3, 123, 2, 231);
        int[] due = {1, 2, 1, 1, 1, 1, 1, 1, 1, 1, 1, 1};
        for (int rule = 0; rule < Votes.RULES; rule++) {
            Check.due("winners(" + rule + ")", x.winners(rule), due[rule]);
        }
        for (int rule : Votes.outside(12)) {
            Check.due("winners(" + rule + ")", x.winners(rule), BAD_INDEX);
            Check.due("winner(" + rule + ")", x.winner(rule), BAD_INDEX);
            Check.due("points(" + rule + ", 0)", x.points(rule, 0), BAD_INDEX);
            Check.due("rounds(" + rule + ")", x.rounds(rule), BAD_INDEX);
            Check.due("leaves(" + rule + ", 0)", x.leaves(rule, 0), BAD_INDEX);
            Check.due("tally(" + rule + ", 0, 0)", x.tally(rule, 0, 0), BAD_INDEX);
            Check.due("strategy(" + rule + ", 0)", x.strategy(rule, 0), BAD_INDEX);
            Check.due("strategyAt(" + rule + ", 0, 0)", x.strategyAt(rule, 0, 0), BAD_INDEX);
            Check.due("strategists(" + rule + ")", x.strategists(rule), BAD_INDEX);
            Check.due("absentees(" + rule + ")", x.absentees(rule), BAD_INDEX);
            Check.due("raisers(" + rule + ")", x.raisers(rule), BAD_INDEX);
            Check.due("spoilers(" + rule + ")", x.spoilers(rule), BAD_INDEX);
            Check.due("split(" + rule + ")", x.split(rule), BAD_INDEX);
            Check.due("removals(" + rule + ")", x.removals(rule), BAD_INDEX);
            Check.due("sample(" + rule + ", 1, 1)", x.sample(rule, 1, 1), BAD_INDEX);
            Check.due("agreeing(" + rule + ", 1, 1, 1)", x.agreeing(rule, 1, 1, 1), BAD_INDEX);
        }
    }

    private static void pointsOfWhichRules() {
        Check.sentence("BAD_STATE if the rule is not 0, 1, 2, 3 or 8, or the candidate does not stand.");
        RankedVotes x = Votes.election(24, 3, 123, 2, 231);
        int[] due = {3, 12, 4, -1, BAD_STATE, BAD_STATE, BAD_STATE, BAD_STATE, 3, BAD_STATE, BAD_STATE, BAD_STATE};
        for (int rule = 0; rule < Votes.RULES; rule++) {
            Check.due("points(" + rule + ", 0)", x.points(rule, 0), due[rule]);
            Check.due("points(" + rule + ", 3) of a withdrawn one", x.points(rule, 3), BAD_STATE);
            Check.due("points(" + rule + ", 5)", x.points(rule, 5), BAD_INDEX);
            Check.due("points(" + rule + ", -1)", x.points(rule, -1), BAD_INDEX);
        }
    }

    private static void favouriteOfSeveral() {
        Check.sentence("Returns the candidate, of several the lowest one; NONE if no candidate stands.");
        // 1 and 4 win by six rules each
        RankedVotes x = Votes.election(1, 5, 532, 2, 42, 3, 25);
        int[] wins = new int[5];
        for (int rule = 0; rule < Votes.RULES; rule++) {
            wins[x.winner(rule)]++;
        }
        Check.due("rules by which 1 wins", wins[1], 6);
        Check.due("rules by which 4 wins", wins[4], 6);
        Check.due("six and six: favourite()", x.favourite(), 1);
        Check.due("no groups: favourite()", new RankedVotes().favourite(), 0);
        for (int c = 0; c < 5; c++) {
            Check.due("only " + c + " stands: favourite()", Votes.election(31 - (1 << c), 5, 12345).favourite(), c);
            Check.due("all for " + c + ": favourite()", Votes.election(0, 5, c + 1).favourite(), c);
        }
        Check.due("nobody stands: favourite()", Votes.election(31, 5, 12345).favourite(), NONE);
        Check.due("nobody stands, no groups: favourite()", Votes.election(31).favourite(), NONE);
    }

    private static void favouriteByEachRule() {
        Check.sentence("Returns the candidate that is the winner by most rules.");
        int[] ballots = {135, 5, 23451, 342, 42, 532, 14, 523, 2, 543, 32, 435, 3415, 524, 13542, 4, 1, 51, 253, 4531};
        boolean[] matters = new boolean[Votes.RULES];
        RankedVotes x = new RankedVotes();
        for (int i = 0; i < 2000; i++) {
            // the same object for several elections, as an object is used for 512 calls
            x = i % 20 == 0 ? new RankedVotes() : x;
            for (int g = 0; g < 3; g++) {
                if (x.groupCount() == 3) {
                    x.removeGroup(0);
                }
                x.addGroup(1 + i * (g + 3) / 7 % 6, ballots[(i / (g + 1) + g * g + i / 20) % 20]);
            }
            int[] wins = new int[5];
            for (int rule = 0; rule < Votes.RULES; rule++) {
                wins[x.winner(rule)]++;
            }
            Check.due("election " + i + ": favourite()", x.favourite(), most(wins));
            for (int rule = 0; rule < Votes.RULES; rule++) {
                int winner = x.winner(rule);
                int before = most(wins);
                wins[winner]--;
                matters[rule] |= most(wins) != before;
                wins[winner]++;
            }
        }
        for (int rule = 0; rule < Votes.RULES; rule++) {
            Check.due("without rule " + rule + " some favourite is another one", matters[rule] ? 1 : 0, 1);
        }
    }

    private static int most(int[] wins) {
        int found = 0;
        for (int c = 1; c < wins.length; c++) {
            found = wins[c] > wins[found] ? c : found;
        }
        return found;
    }
}
