/** Promises 12 to 26: what is counted. */
public final class CountTest {
    private static final int NONE = Votes.NONE, BAD_INDEX = Votes.BAD_INDEX, BAD_STATE = Votes.BAD_STATE;
    private static final int[] NO_RULES = {-1, 12, Integer.MIN_VALUE, Integer.MAX_VALUE};
    private static final int[] NO_CANDIDATES = {-1, 5, Integer.MIN_VALUE, Integer.MAX_VALUE};

    public static void main(String[] args) {
        promise12Pair();
        promise13Capitals();
        promise13Ties();
        promise13Nobody();
        promise13OneCandidate();
        promise13BlackAndBorda();
        promise13EmptyBallots();
        promise13Bucklin();
        promise13AfterChanges();
        promise14Winner();
        promise15Points();
        promises16To18();
        promise19Strength();
        promise20IsLocked();
        promises21To23();
        promise23EmptyBallots();
        promises24And25();
        promise26Favourite();
        Check.finish();
    }

    private static RankedVotes election(int withdrawn, int... votes) {
        return Votes.election(withdrawn, votes);
    }

    /** Which of four towns is to be the capital; 1 beats all, 0 loses to all. */
    private static RankedVotes capitals() {
        return election(16, 42, 1234, 26, 2341, 15, 3421, 17, 4321);
    }

    /** The example with which the rule of Schulze is mostly told; 45 voters, 5 candidates. */
    private static RankedVotes fortyFive() {
        return election(0, 5, 13254, 5, 14532, 8, 25413, 3, 31254, 7, 31524, 2, 32145, 7, 43521, 8, 52143);
    }

    private static RankedVotes cycle() {
        return election(24, 1, 123, 1, 231, 1, 312);
    }

    private static void promise12Pair() {
        RankedVotes x = election(8, 3, 12, 4, 2, 5, 431);
        // those who rank neither count for neither, those who rank one count for it
        Check.due("pair(0, 1)", x.pair(0, 1), 8);
        Check.due("pair(1, 0)", x.pair(1, 0), 4);
        Check.due("pair(1, 2)", x.pair(1, 2), 7);
        Check.due("pair(2, 0)", x.pair(2, 0), 5);
        Check.due("pair(0, 2)", x.pair(0, 2), 3);
        Check.due("pair(0, 4)", x.pair(0, 4), 8);
        Check.due("pair(4, 0)", x.pair(4, 0), 0);
        Check.due("pair(0, 0)", x.pair(0, 0), 0);
        Check.due("pair(3, 0) of a withdrawn one", x.pair(3, 0), BAD_STATE);
        Check.due("pair(0, 3) of a withdrawn one", x.pair(0, 3), BAD_STATE);
        Check.due("pair(3, 3) of a withdrawn one", x.pair(3, 3), BAD_STATE);
        for (int c : NO_CANDIDATES) {
            Check.due("pair(" + c + ", 0)", x.pair(c, 0), BAD_INDEX);
            Check.due("pair(3, " + c + ")", x.pair(3, c), BAD_INDEX);
        }
    }

    private static void promise13Capitals() {
        RankedVotes x = capitals();
        int[] due = {1, 2, 2, 2, 2, 2, 8, 2, 2, 2, 2, 2};
        for (int rule = 0; rule < 12; rule++) {
            Check.due("capitals: winners(" + rule + ")", x.winners(rule), due[rule]);
        }
        for (int rule : NO_RULES) {
            Check.due("winners(" + rule + ")", x.winners(rule), BAD_INDEX);
        }
        Check.due("forty-five: winners(4)", fortyFive().winners(4), 16);
    }

    private static void promise13Ties() {
        RankedVotes x = cycle();
        // (0, 1) and (1, 2) are locked, (2, 0) is not; by rounds the greatest number leaves first,
        // then 0 has two voters of three against 1
        int[] due = {7, 7, 7, 7, 7, 1, 1, 1, 7, 7, 7, 7};
        for (int rule = 0; rule < 12; rule++) {
            Check.due("cycle: winners(" + rule + ")", x.winners(rule), due[rule]);
        }
        // with equal votes both ways no pair is locked, and all orders of 0 and 1 are equally good
        RankedVotes y = election(28, 1, 12, 1, 21);
        int[] equal = {3, 3, 3, 3, 3, 3, 1, 1, 3, 3, 3, 3};
        for (int rule = 0; rule < 12; rule++) {
            Check.due("equal: winners(" + rule + ")", y.winners(rule), equal[rule]);
        }
    }

    private static void promise13Nobody() {
        RankedVotes x = election(31, 5, 123);
        RankedVotes y = new RankedVotes();
        for (int rule = 0; rule < 12; rule++) {
            Check.due("nobody stands: winners(" + rule + ")", x.winners(rule), 0);
            boolean alone = rule == 6 || rule == 7;
            Check.due("no groups: winners(" + rule + ")", y.winners(rule), alone ? 1 : 31);
        }
    }

    private static void promise13OneCandidate() {
        RankedVotes x = election(27, 5, 123, 2, 5);
        for (int rule = 0; rule < 12; rule++) {
            Check.due("only 2 stands: winners(" + rule + ")", x.winners(rule), 4);
        }
        Check.due("only 2 stands: points(3, 2)", x.points(3, 2), 0);
        Check.due("only 2 stands: points(1, 2)", x.points(1, 2), 0);
        Check.due("only 2 stands: rounds(6)", x.rounds(6), 0);
        Check.due("only 2 stands: rounds(7)", x.rounds(7), 0);
        Check.due("only 2 stands: beatsAll()", x.beatsAll(), 2);
        Check.due("only 2 stands: losesToAll()", x.losesToAll(), NONE);
    }

    private static void promise13BlackAndBorda() {
        // 0 beats 1 and 2 with 3 to 2 each, but has 12 points by Borda, 1 has 14
        RankedVotes x = election(24, 3, 123, 2, 231);
        Check.due("winners(1)", x.winners(1), 2);
        Check.due("winners(9)", x.winners(9), 1);
        // none beats all in this cycle of 5, 4 and 3, whose points are 28, 26 and 18
        RankedVotes y = election(24, 5, 123, 4, 231, 1, 312);
        Check.due("cycle: winners(9)", y.winners(9), 2);
        Check.due("cycle: winners(1)", y.winners(1), 2);
        // 0, 3 and 4 are below the average at first, then 2 beats 1
        RankedVotes z = election(0, 3, 23, 4, 32, 1, 1);
        Check.due("winners(10)", z.winners(10), 4);
    }

    private static void promise13EmptyBallots() {
        // n is 9 with the empty ballots: 2 * 3 is not greater, so that k is 2
        RankedVotes x = election(28, 3, 12, 2, 2, 4, 5);
        Check.due("Bucklin with empty ballots: winners(8)", x.winners(8), 2);
        Check.due("Bucklin with empty ballots: points(8, 1)", x.points(8, 1), 5);
        Check.due("Bucklin with empty ballots: points(8, 0)", x.points(8, 0), 3);
        // 5 ballots are not empty: 2 * 3 is greater
        Check.due("Coombs with empty ballots: rounds(7)", x.rounds(7), 0);
        Check.due("Coombs with empty ballots: winners(7)", x.winners(7), 1);
        Check.due("Borda with empty ballots: points(1, 0)", x.points(1, 0), 10);
        Check.due("Borda with empty ballots: points(1, 1)", x.points(1, 1), 8);
        Check.due("Bucklin without majority: points(8, 1)", election(28, 3, 1, 2, 2, 4, 5).points(8, 1), 2);
    }

    private static void promise13Bucklin() {
        // 2 of 4 voters are not more than half, so that the second places count too
        RankedVotes x = election(24, 2, 12, 1, 23, 1, 32);
        Check.due("just half: winners(8)", x.winners(8), 2);
        Check.due("just half: points(8, 1)", x.points(8, 1), 4);
        // 3 of 5 are more, so that they do not
        RankedVotes y = election(24, 3, 12, 2, 21);
        Check.due("more than half: winners(8)", y.winners(8), 1);
        Check.due("more than half: points(8, 1)", y.points(8, 1), 2);
    }

    private static void promise13AfterChanges() {
        RankedVotes x = election(28, 2, 12, 1, 21);
        for (int rule = 0; rule < 12; rule++) {
            Check.due("2 against 1: winners(" + rule + ")", x.winners(rule), 1);
        }
        Check.due("2 against 1: isLocked(0, 1)", x.isLocked(0, 1), 1);
        x.setVoters(1, 3);
        for (int rule = 0; rule < 12; rule++) {
            Check.due("2 against 3: winners(" + rule + ")", x.winners(rule), 2);
        }
        Check.due("2 against 3: isLocked(0, 1)", x.isLocked(0, 1), 0);
        Check.due("2 against 3: isLocked(1, 0)", x.isLocked(1, 0), 1);
    }

    private static void promise14Winner() {
        RankedVotes x = capitals();
        int[] due = {0, 1, 1, 1, 1, 1, 3, 1, 1, 1, 1, 1};
        for (int rule = 0; rule < 12; rule++) {
            Check.due("capitals: winner(" + rule + ")", x.winner(rule), due[rule]);
            Check.due("cycle: winner(" + rule + ")", cycle().winner(rule), 0);
            Check.due("nobody stands: winner(" + rule + ")", election(31, 5, 1).winner(rule), NONE);
        }
        Check.due("equal without 0: winner(0)", election(1, 3, 43, 3, 2, 3, 3).winner(0), 1);
        for (int rule : NO_RULES) {
            Check.due("winner(" + rule + ")", x.winner(rule), BAD_INDEX);
        }
    }

    private static void promise15Points() {
        RankedVotes x = capitals();
        int[][] due = {{42, 26, 15, 17}, {252, 388, 346, 214}, {0, 6, 4, 2}, {16, -16, 36, 66}, {42, 68, 58, 32}};
        int[] rules = {0, 1, 2, 3, 8};
        for (int i = 0; i < rules.length; i++) {
            for (int c = 0; c < 4; c++) {
                Check.due("capitals: points(" + rules[i] + ", " + c + ")", x.points(rules[i], c), due[i][c]);
            }
            Check.due("points(" + rules[i] + ", 4) of a withdrawn one", x.points(rules[i], 4), BAD_STATE);
            Check.due("points(" + rules[i] + ", 5)", x.points(rules[i], 5), BAD_INDEX);
        }
        for (int rule : new int[] {4, 5, 6, 7, 9, 10, 11}) {
            Check.due("points(" + rule + ", 0)", x.points(rule, 0), BAD_STATE);
            Check.due("points(" + rule + ", -1)", x.points(rule, -1), BAD_INDEX);
        }
        for (int rule : NO_RULES) {
            Check.due("points(" + rule + ", 4)", x.points(rule, 4), BAD_INDEX);
        }
        // not ranked: 2 others are not either, so that each of them gives 2
        Check.due("points(1, 3)", election(0, 7, 12).points(1, 3), 14);
        Check.due("points(1, 1)", election(0, 7, 12).points(1, 1), 42);
        Check.due("points(2, 3) of equal ones", election(0, 7, 12).points(2, 3), 2);
        Check.due("points(3, 3) of equal ones", election(3, 7, 12).points(3, 3), 0);
    }

    private static void promises16To18() {
        Check.due("capitals: beatsAll()", capitals().beatsAll(), 1);
        Check.due("capitals: losesToAll()", capitals().losesToAll(), 0);
        Check.due("capitals: smith()", capitals().smith(), 2);
        Check.due("cycle: beatsAll()", cycle().beatsAll(), NONE);
        Check.due("cycle: losesToAll()", cycle().losesToAll(), NONE);
        Check.due("cycle: smith()", cycle().smith(), 7);
        RankedVotes x = election(16, 1, 1234, 1, 2314, 1, 3124);
        Check.due("cycle above 3: smith()", x.smith(), 7);
        Check.due("cycle above 3: losesToAll()", x.losesToAll(), 3);
        RankedVotes y = election(28, 1, 12, 1, 21);
        Check.due("equal: beatsAll()", y.beatsAll(), NONE);
        Check.due("equal: losesToAll()", y.losesToAll(), NONE);
        Check.due("equal: smith()", y.smith(), 3);
        RankedVotes z = election(31, 1, 12);
        Check.due("nobody stands: beatsAll()", z.beatsAll(), NONE);
        Check.due("nobody stands: losesToAll()", z.losesToAll(), NONE);
        Check.due("nobody stands: smith()", z.smith(), 0);
    }

    private static void promise19Strength() {
        RankedVotes x = fortyFive();
        int[][] due = {{0, 28, 28, 30, 24}, {25, 0, 28, 33, 24}, {25, 29, 0, 29, 24}, {25, 28, 28, 0, 24},
            {25, 28, 28, 31, 0}};
        for (int a = 0; a < 5; a++) {
            for (int b = 0; b < 5; b++) {
                int answer = a == b ? BAD_STATE : due[a][b];
                Check.due("forty-five: strength(" + a + ", " + b + ")", x.strength(a, b), answer);
            }
            for (int c : NO_CANDIDATES) {
                Check.due("strength(" + a + ", " + c + ")", x.strength(a, c), BAD_INDEX);
                Check.due("strength(" + c + ", " + a + ")", x.strength(c, a), BAD_INDEX);
            }
        }
        Check.due("strength(-1, -1)", x.strength(-1, -1), BAD_INDEX);
        x.setStanding(1, false);
        // the way from 2 to 3 by 1, with 29, is gone: the one by 4 has 24, then 31
        Check.due("without 1: strength(2, 3)", x.strength(2, 3), 24);
        Check.due("without 1: strength(3, 2)", x.strength(3, 2), 28);
        Check.due("without 1: strength(1, 2)", x.strength(1, 2), BAD_STATE);
        Check.due("without 1: strength(2, 1)", x.strength(2, 1), BAD_STATE);
        Check.due("equal: strength(0, 1)", election(28, 1, 12, 1, 21).strength(0, 1), 0);
        Check.due("capitals: strength(0, 1)", capitals().strength(0, 1), 0);
        Check.due("capitals: strength(1, 0)", capitals().strength(1, 0), 58);
    }

    private static void promise20IsLocked() {
        // leads: 0 over 1 has 6, 1 over 2 has 4, 2 over 0 has 2 and closes the circle
        RankedVotes x = election(24, 5, 123, 4, 312, 3, 231);
        Check.due("isLocked(0, 1)", x.isLocked(0, 1), 1);
        Check.due("isLocked(1, 2)", x.isLocked(1, 2), 1);
        Check.due("isLocked(2, 0)", x.isLocked(2, 0), 0);
        Check.due("isLocked(1, 0)", x.isLocked(1, 0), 0);
        Check.due("isLocked(0, 2)", x.isLocked(0, 2), 0);
        Check.due("isLocked(1, 1)", x.isLocked(1, 1), 0);
        Check.due("isLocked(3, 0)", x.isLocked(3, 0), BAD_STATE);
        Check.due("isLocked(0, 4)", x.isLocked(0, 4), BAD_STATE);
        Check.due("isLocked(4, 4)", x.isLocked(4, 4), BAD_STATE);
        for (int c : NO_CANDIDATES) {
            Check.due("isLocked(" + c + ", 3)", x.isLocked(c, 3), BAD_INDEX);
            Check.due("isLocked(0, " + c + ")", x.isLocked(0, c), BAD_INDEX);
        }
        Check.due("cycle: isLocked(0, 1)", cycle().isLocked(0, 1), 1);
        Check.due("cycle: isLocked(1, 2)", cycle().isLocked(1, 2), 1);
        Check.due("cycle: isLocked(2, 0)", cycle().isLocked(2, 0), 0);
        // a way of three pairs: 0 over 1, 1 over 2, 2 over 3 lead by more than 3 over 0
        RankedVotes y = election(16, 5, 1234, 5, 2341, 4, 3412, 3, 4123);
        Check.due("circle of four: isLocked(2, 3)", y.isLocked(2, 3), 1);
        Check.due("circle of four: isLocked(3, 0)", y.isLocked(3, 0), 0);
        Check.due("circle of four: winners(5)", y.winners(5), 1);
    }

    private static void promises21To23() {
        RankedVotes x = capitals();
        Check.due("capitals: rounds(6)", x.rounds(6), 3);
        int[] leavers = {2, 1, 0};
        int[][] tallies = {{42, 26, 15, 17, NONE}, {42, 26, NONE, 32, NONE}, {42, NONE, NONE, 58, NONE}};
        for (int round = 0; round < 3; round++) {
            Check.due("capitals: leaves(6, " + round + ")", x.leaves(6, round), leavers[round]);
            for (int c = 0; c < 5; c++) {
                Check.due("capitals: tally(6, " + round + ", " + c + ")", x.tally(6, round, c), tallies[round][c]);
            }
        }
        Check.due("capitals: rounds(7)", x.rounds(7), 1);
        Check.due("capitals: leaves(7, 0)", x.leaves(7, 0), 0);
        int[] lasts = {58, 0, 0, 42, NONE};
        for (int c = 0; c < 5; c++) {
            Check.due("capitals: tally(7, 0, " + c + ")", x.tally(7, 0, c), lasts[c]);
        }
        for (int round : new int[] {-1, 3, 4, 5, Integer.MIN_VALUE, Integer.MAX_VALUE}) {
            Check.due("leaves(6, " + round + ")", x.leaves(6, round), BAD_INDEX);
            Check.due("tally(6, " + round + ", 0)", x.tally(6, round, 0), BAD_INDEX);
            Check.due("leaves(0, " + round + ")", x.leaves(0, round), BAD_STATE);
            Check.due("tally(11, " + round + ", 0)", x.tally(11, round, 0), BAD_STATE);
            Check.due("tally(11, " + round + ", 5)", x.tally(11, round, 5), BAD_INDEX);
        }
        Check.due("leaves(7, 1)", x.leaves(7, 1), BAD_INDEX);
        Check.due("tally(7, 1, 1)", x.tally(7, 1, 1), BAD_INDEX);
        Check.due("rounds(8)", x.rounds(8), BAD_STATE);
        for (int rule : NO_RULES) {
            Check.due("rounds(" + rule + ")", x.rounds(rule), BAD_INDEX);
            Check.due("leaves(" + rule + ", 0)", x.leaves(rule, 0), BAD_INDEX);
            Check.due("tally(" + rule + ", 0, 0)", x.tally(rule, 0, 0), BAD_INDEX);
        }
        for (int c : NO_CANDIDATES) {
            Check.due("tally(7, 0, " + c + ")", x.tally(7, 0, c), BAD_INDEX);
        }
        Check.due("nobody stands: rounds(6)", election(31, 5, 1).rounds(6), 0);
        Check.due("nobody stands: leaves(6, 0)", election(31, 5, 1).leaves(6, 0), BAD_INDEX);
    }

    private static void promise23EmptyBallots() {
        // 0 and 1 are equally many; an empty ballot has the greatest number for its last one
        RankedVotes x = election(24, 2, 1, 2, 2, 3, 4);
        Check.due("tally(7, 0, 2)", x.tally(7, 0, 2), 7);
        Check.due("tally(7, 0, 0)", x.tally(7, 0, 0), 0);
        Check.due("leaves(7, 0)", x.leaves(7, 0), 2);
        Check.due("tally(7, 1, 1)", x.tally(7, 1, 1), 5);
        Check.due("tally(7, 1, 0)", x.tally(7, 1, 0), 2);
        Check.due("leaves(7, 1)", x.leaves(7, 1), 1);
        Check.due("winners(7)", x.winners(7), 1);
        Check.due("tally(6, 0, 2)", x.tally(6, 0, 2), 0);
        Check.due("leaves(6, 1)", x.leaves(6, 1), 1);
    }

    private static void promises24And25() {
        RankedVotes x = capitals();
        Check.due("capitals: kemenyValue()", x.kemenyValue(), 393);
        int[] due = {1, 2, 3, 0};
        for (int place = 0; place < 4; place++) {
            Check.due("capitals: kemeny(" + place + ")", x.kemeny(place), due[place]);
        }
        for (int place : new int[] {-1, 4, 5, Integer.MIN_VALUE, Integer.MAX_VALUE}) {
            Check.due("capitals: kemeny(" + place + ")", x.kemeny(place), BAD_INDEX);
        }
        // three orders of the cycle have the value 5; the first one of them is 0, 1, 2
        RankedVotes y = cycle();
        Check.due("cycle: kemenyValue()", y.kemenyValue(), 5);
        Check.due("cycle: kemeny(0)", y.kemeny(0), 0);
        Check.due("cycle: kemeny(1)", y.kemeny(1), 1);
        Check.due("cycle: kemeny(2)", y.kemeny(2), 2);
        RankedVotes z = election(31, 5, 1);
        Check.due("nobody stands: kemenyValue()", z.kemenyValue(), 0);
        Check.due("nobody stands: kemeny(0)", z.kemeny(0), BAD_INDEX);
        RankedVotes one = election(15, 5, 1);
        Check.due("only 4 stands: kemenyValue()", one.kemenyValue(), 0);
        Check.due("only 4 stands: kemeny(0)", one.kemeny(0), 4);
        Check.due("only 4 stands: kemeny(1)", one.kemeny(1), BAD_INDEX);
    }

    private static void promise26Favourite() {
        // each rule counts once: 0 wins by some, 1 or 2 by others
        int[] ballots = {123, 132, 213, 231, 312, 321};
        for (int i = 0; i < 216; i++) {
            RankedVotes x = election(24, 5, ballots[i % 6], 4, ballots[i / 6 % 6], 3, ballots[i / 36], 1 + i % 7, 3);
            int[] wins = new int[5];
            for (int rule = 0; rule < 12; rule++) {
                wins[x.winner(rule)]++;
            }
            int due = wins[1] > wins[0] ? 1 : 0;
            due = wins[2] > wins[due] ? 2 : due;
            Check.due("election " + i + ": favourite()", x.favourite(), due);
        }
        Check.due("capitals: favourite()", capitals().favourite(), 1);
        Check.due("cycle: favourite()", cycle().favourite(), 0);
        Check.due("no groups: favourite()", new RankedVotes().favourite(), 0);
        Check.due("without 0: favourite()", election(1, 9, 1, 1, 4).favourite(), 3);
        Check.due("nobody stands: favourite()", election(31, 9, 1).favourite(), NONE);
    }
}
