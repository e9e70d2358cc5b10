/** Promises 12 and 16 to 25 at their edges: pairs, sets, paths, rounds and whole orders. */
public final class CountEdgeTest {
    private static final int NONE = Votes.NONE, BAD_INDEX = Votes.BAD_INDEX, BAD_STATE = Votes.BAD_STATE;

    public static void main(String[] args) {
        pairOfOne();
        pairOfWithdrawn();
        beatsIsMoreThanEqual();
        beatsAllOfOne();
        losesToAllOfTwo();
        smithSets();
        strengthOfWithdrawn();
        isLockedOfWithdrawn();
        roundsOfWhichRules();
        roundNumbers();
        tallyBeforeAndAfterLeaving();
        kemenyValues();
        kemenyPlaces();
        kemenyFirstOrder();
        Check.finish();
    }

    private static void pairOfOne() {
        Check.sentence("- `b`: another one, or the same (then it is 0)");
        for (int c = 0; c < 5; c++) {
            Check.due("pair(" + c + ", " + c + ")", Votes.election(0, 9, 12345, 3, 4).pair(c, c), 0);
        }
        RankedVotes x = new RankedVotes();
        for (int g = 0; g < 20; g++) {
            x.addGroup(100, 51);
        }
        Check.due("2000 voters: pair(4, 0)", x.pair(4, 0), 2000);
        Check.due("2000 voters: pair(0, 4)", x.pair(0, 4), 0);
        Check.due("2000 voters: pair(0, 1)", x.pair(0, 1), 2000);
        Check.due("2000 voters: pair(1, 2)", x.pair(1, 2), 0);
        Check.due("no groups: pair(0, 1)", new RankedVotes().pair(0, 1), 0);
    }

    private static void pairOfWithdrawn() {
        Check.sentence("Returns P(a, b); BAD_INDEX if there is no such candidate (either one); "
            + "BAD_STATE if one of them does not stand.");
        RankedVotes x = Votes.election(6, 9, 12345);
        for (int a = 0; a < 5; a++) {
            for (int b = 0; b < 5; b++) {
                boolean stand = (6 >> a & 1) == 0 && (6 >> b & 1) == 0;
                int due = !stand ? BAD_STATE : a < b ? 9 : 0;
                Check.due("pair(" + a + ", " + b + ")", x.pair(a, b), due);
            }
            for (int c : Votes.outside(5)) {
                Check.due("pair(" + a + ", " + c + ")", x.pair(a, c), BAD_INDEX);
                Check.due("pair(" + c + ", " + a + ")", x.pair(c, a), BAD_INDEX);
            }
        }
    }

    private static void beatsIsMoreThanEqual() {
        Check.sentence("a beats b if P(a, b) > P(b, a).");
        int[] first = {49, 50, 51};
        int[] champion = {1, NONE, 0};
        int[] loser = {0, NONE, 1};
        int[] smith = {2, 3, 1};
        for (int i = 0; i < 3; i++) {
            RankedVotes x = Votes.election(28, first[i], 12, 50, 21);
            String name = first[i] + " against 50: ";
            Check.due(name + "beatsAll()", x.beatsAll(), champion[i]);
            Check.due(name + "losesToAll()", x.losesToAll(), loser[i]);
            Check.due(name + "smith()", x.smith(), smith[i]);
            Check.due(name + "winners(9)", x.winners(9), smith[i]);
            Check.due(name + "isLocked(0, 1)", x.isLocked(0, 1), i == 2 ? 1 : 0);
            Check.due(name + "strength(0, 1)", x.strength(0, 1), i == 2 ? 51 : 0);
            Check.due(name + "points(2, 0)", x.points(2, 0), i);
        }
    }

    private static void beatsAllOfOne() {
        Check.sentence("Returns the candidate that beats all others that stand.");
        for (int c = 0; c < 5; c++) {
            Check.due("only " + c + " stands: beatsAll()", Votes.election(31 - (1 << c), 1, 1).beatsAll(), c);
            Check.due("only " + c + " stands, no groups: beatsAll()", Votes.election(31 - (1 << c)).beatsAll(), c);
            Check.due("all for " + c + ": beatsAll()", Votes.election(0, 1, c + 1).beatsAll(), c);
        }
        Check.due("nobody stands: beatsAll()", Votes.election(31, 1, 1).beatsAll(), NONE);
        Check.due("no groups: beatsAll()", new RankedVotes().beatsAll(), NONE);
        // 4 beats all but 3, with whom it is equal
        Check.due("all but one: beatsAll()", Votes.election(0, 1, 54321, 1, 45321).beatsAll(), NONE);
        // without 3 it beats all
        Check.due("all but a withdrawn one: beatsAll()", Votes.election(8, 1, 54321, 1, 45321).beatsAll(), 4);
    }

    private static void losesToAllOfTwo() {
        Check.sentence("Returns the candidate; NONE if there is none, or fewer than two candidates stand.");
        for (int c = 0; c < 5; c++) {
            Check.due("only " + c + " stands: losesToAll()", Votes.election(31 - (1 << c), 1, 12345).losesToAll(), NONE);
            int other = (c + 1) % 5;
            int two = 31 - (1 << c) - (1 << other);
            Check.due(c + " and " + other + " stand: losesToAll()", Votes.election(two, 1, other + 1).losesToAll(), c);
        }
        Check.due("nobody stands: losesToAll()", Votes.election(31, 1, 12345).losesToAll(), NONE);
        Check.due("no groups: losesToAll()", new RankedVotes().losesToAll(), NONE);
        Check.due("five stand: losesToAll()", Votes.election(0, 1, 12345).losesToAll(), 4);
        Check.due("five stand, 0 is not ranked: losesToAll()", Votes.election(0, 1, 5432).losesToAll(), 0);
        Check.due("two are not ranked: losesToAll()", Votes.election(0, 1, 543).losesToAll(), NONE);
        // 0 loses to all but 1, with whom it is equal
        Check.due("all but one: losesToAll()", Votes.election(0, 1, 54321, 1, 54312).losesToAll(), NONE);
    }

    private static void smithSets() {
        Check.sentence("The Smith set is the smallest set of candidates of A, not empty, each of which beats each candidate "
            + "of A that is not in the set (empty only if A is empty).");
        for (int withdrawn = 0; withdrawn < 32; withdrawn++) {
            Check.due("no groups without " + withdrawn + ": smith()", Votes.election(withdrawn).smith(), 31 - withdrawn);
            int first = Integer.lowestOneBit(31 - withdrawn);
            Check.due("12345 without " + withdrawn + ": smith()", Votes.election(withdrawn, 1, 12345).smith(), first);
        }
        // the first 1 to 5 are equal, and all of them are above the others
        int[] reversed = {12345, 21345, 32145, 43215, 54321};
        for (int i = 0; i < 5; i++) {
            RankedVotes x = Votes.election(0, 7, 12345, 7, reversed[i]);
            Check.due("12345 and " + reversed[i] + ": smith()", x.smith(), (2 << i) - 1);
        }
        // 1 beats 2, and 2 beats 3, but 3 is equal to 1
        Check.due("circle with a tie: smith()", Votes.election(0, 1, 23415, 1, 34215, 1, 42315, 1, 23415).smith(), 14);
        // a circle of all five
        RankedVotes circle = new RankedVotes();
        for (int a = 0; a < 5; a++) {
            Votes.lead(circle, a, (a + 1) % 5, 1);
        }
        Check.due("circle of five: smith()", circle.smith(), 31);
    }

    private static void strengthOfWithdrawn() {
        Check.sentence("Returns s(a, b); BAD_INDEX if there is no such candidate (either one); BAD_STATE if one of them "
            + "does not stand, or both are the same.");
        RankedVotes x = Votes.election(20, 9, 12345);
        for (int a = 0; a < 5; a++) {
            for (int b = 0; b < 5; b++) {
                boolean fits = a != b && (20 >> a & 1) == 0 && (20 >> b & 1) == 0;
                Check.due("strength(" + a + ", " + b + ")", x.strength(a, b), !fits ? BAD_STATE : a < b ? 9 : 0);
            }
            for (int c : Votes.outside(5)) {
                Check.due("strength(" + a + ", " + c + ")", x.strength(a, c), BAD_INDEX);
                Check.due("strength(" + c + ", " + a + ")", x.strength(c, a), BAD_INDEX);
                Check.due("strength(" + c + ", " + c + ")", x.strength(c, c), BAD_INDEX);
            }
        }
    }

    private static void isLockedOfWithdrawn() {
        Check.sentence("Returns 1 if (a, b) is locked, else 0; BAD_INDEX if there is no such candidate (either one); "
            + "BAD_STATE if one of them does not stand.");
        RankedVotes x = Votes.election(20, 9, 12345);
        for (int a = 0; a < 5; a++) {
            for (int b = 0; b < 5; b++) {
                boolean stand = (20 >> a & 1) == 0 && (20 >> b & 1) == 0;
                Check.due("isLocked(" + a + ", " + b + ")", x.isLocked(a, b), !stand ? BAD_STATE : a < b ? 1 : 0);
            }
            for (int c : Votes.outside(5)) {
                Check.due("isLocked(" + a + ", " + c + ")", x.isLocked(a, c), BAD_INDEX);
                Check.due("isLocked(" + c + ", " + a + ")", x.isLocked(c, a), BAD_INDEX);
                Check.due("isLocked(" + c + ", " + c + ")", x.isLocked(c, c), BAD_INDEX);
            }
        }
    }

    private static void roundsOfWhichRules() {
        Check.sentence("Returns the number; BAD_INDEX if there is no such rule; BAD_STATE if rule is not 6 or 7.");
        RankedVotes x = Votes.election(0, 2, 12345, 2, 54321, 1, 3);
        for (int rule = 0; rule < Votes.RULES; rule++) {
            boolean fits = rule == 6 || rule == 7;
            // by rule 7 4 and 3 leave before 2 is the first one of 3 of 5
            Check.due("rounds(" + rule + ")", x.rounds(rule), fits ? 4 - (rule - 6) * 2 : BAD_STATE);
            Check.due("leaves(" + rule + ", 0)", x.leaves(rule, 0), rule == 6 ? 3 : fits ? 4 : BAD_STATE);
            Check.due("tally(" + rule + ", 0, 4)", x.tally(rule, 0, 4), rule == 6 ? 2 : fits ? 3 : BAD_STATE);
        }
        for (int rule : Votes.outside(12)) {
            Check.due("rounds(" + rule + ")", x.rounds(rule), BAD_INDEX);
        }
    }

    private static void roundNumbers() {
        Check.sentence("BAD_INDEX if there is no such rule, or, by rule 6 or 7, no such round;");
        for (int rule = 6; rule <= 7; rule++) {
            for (int withdrawn = 0; withdrawn < 32; withdrawn++) {
                RankedVotes x = Votes.election(withdrawn);
                int rounds = Math.max(0, 4 - Integer.bitCount(withdrawn));
                int left = 31 - withdrawn;
                String name = "no groups without " + withdrawn + ": ";
                Check.due(name + "rounds(" + rule + ")", x.rounds(rule), rounds);
                for (int round = 0; round < rounds; round++) {
                    int greatest = 31 - Integer.numberOfLeadingZeros(left);
                    Check.due(name + "leaves(" + rule + ", " + round + ")", x.leaves(rule, round), greatest);
                    Check.due(name + "tally(" + rule + ", " + round + ")", x.tally(rule, round, greatest), 0);
                    left -= 1 << greatest;
                }
                for (int round : Votes.outside(rounds)) {
                    Check.due(name + "leaves(" + rule + ", " + round + ")", x.leaves(rule, round), BAD_INDEX);
                    Check.due(name + "tally(" + rule + ", " + round + ", 0)", x.tally(rule, round, 0), BAD_INDEX);
                }
            }
        }
    }

    private static void tallyBeforeAndAfterLeaving() {
        Check.sentence("Returns the tally; NONE if the candidate is not in C at the beginning of the round;");
        RankedVotes x = Votes.election(2, 4, 1, 3, 31, 2, 43, 1, 5);
        // 4 leaves, then 3, whose two voters 2 gets, then 0
        int[][] due = {{4, NONE, 3, 2, 1}, {4, NONE, 3, 2, NONE}, {4, NONE, 5, NONE, NONE}};
        int[] leavers = {4, 3, 0};
        for (int round = 0; round < 3; round++) {
            Check.due("leaves(6, " + round + ")", x.leaves(6, round), leavers[round]);
            for (int c = 0; c < 5; c++) {
                Check.due("tally(6, " + round + ", " + c + ")", x.tally(6, round, c), due[round][c]);
            }
            Check.due("tally(6, " + round + ", 5)", x.tally(6, round, 5), BAD_INDEX);
        }
        Check.due("tally(6, 3, 2)", x.tally(6, 3, 2), BAD_INDEX);
        // what an election of more rounds left behind is not there any more
        x.setStanding(4, false);
        x.setStanding(3, false);
        Check.due("two stand: tally(6, 0, 3)", x.tally(6, 0, 3), NONE);
        Check.due("two stand: tally(6, 1, 0)", x.tally(6, 1, 0), BAD_INDEX);
        Check.due("two stand: leaves(6, 1)", x.leaves(6, 1), BAD_INDEX);
    }

    private static void kemenyValues() {
        Check.sentence("Returns the value; 0 if no candidate stands.");
        for (int withdrawn = 0; withdrawn < 32; withdrawn++) {
            int stand = 5 - Integer.bitCount(withdrawn);
            RankedVotes x = Votes.election(withdrawn, 100, 54321);
            Check.due("without " + withdrawn + ": kemenyValue()", x.kemenyValue(), 100 * stand * (stand - 1) / 2);
            Check.due("no groups without " + withdrawn + ": kemenyValue()", Votes.election(withdrawn).kemenyValue(), 0);
        }
        RankedVotes all = new RankedVotes();
        for (int g = 0; g < 20; g++) {
            all.addGroup(100, 31425);
        }
        Check.due("2000 voters: kemenyValue()", all.kemenyValue(), 20000);
    }

    private static void kemenyPlaces() {
        Check.sentence("Returns the candidate; BAD_INDEX if there is no such place.");
        for (int withdrawn = 0; withdrawn < 32; withdrawn++) {
            RankedVotes x = Votes.election(withdrawn, 7, 12345);
            int stand = 5 - Integer.bitCount(withdrawn);
            int left = 31 - withdrawn;
            for (int place = 0; place < stand; place++) {
                int lowest = Integer.numberOfTrailingZeros(left);
                Check.due("without " + withdrawn + ": kemeny(" + place + ")", x.kemeny(place), lowest);
                left -= 1 << lowest;
            }
            for (int place : Votes.outside(stand)) {
                Check.due("without " + withdrawn + ": kemeny(" + place + ")", x.kemeny(place), BAD_INDEX);
            }
        }
    }

    private static void kemenyFirstOrder() {
        Check.sentence("Returns a candidate of the lexicographically first order with the greatest value by rule 11.");
        // 4 is above all; the others are equal, so that they come by their numbers
        RankedVotes x = Votes.election(0, 5, 5);
        int[] fourFirst = {4, 0, 1, 2, 3};
        // 0 is below all
        RankedVotes y = Votes.election(0, 5, 2345, 5, 5432);
        int[] zeroLast = {1, 2, 3, 4, 0};
        RankedVotes none = new RankedVotes();
        // 2 comes before 0, and 4 before 1; all else is equal
        RankedVotes z = new RankedVotes();
        Votes.lead(z, 2, 0, 1);
        Votes.lead(z, 4, 1, 1);
        int[] twoPairs = {2, 0, 3, 4, 1};
        for (int place = 0; place < 5; place++) {
            Check.due("4 first: kemeny(" + place + ")", x.kemeny(place), fourFirst[place]);
            Check.due("0 last: kemeny(" + place + ")", y.kemeny(place), zeroLast[place]);
            Check.due("no groups: kemeny(" + place + ")", none.kemeny(place), place);
            Check.due("two pairs: kemeny(" + place + ")", z.kemeny(place), twoPairs[place]);
        }
    }
}
