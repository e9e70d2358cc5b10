/** Promises 35 to 37: samples and history. */
public final class SampleTest {
    private static final int NONE = Votes.NONE, BAD_INDEX = Votes.BAD_INDEX, BAD_VALUE = Votes.BAD_VALUE,
        BAD_STATE = Votes.BAD_STATE;
    private static final int[] SEEDS = {0, 1, 5, -1, 12345, 1 << 30, 987654321, -1103515245, Integer.MIN_VALUE,
        Integer.MAX_VALUE};

    public static void main(String[] args) {
        promise35OneVoter();
        promise35ManyVoters();
        promise35Errors();
        promise36Agreeing();
        promise36Errors();
        promise37Undo();
        promise37WhatIsRecorded();
        promise37NotTheText();
        Check.finish();
    }

    private static int next(int x) {
        return (int) (x * 1103515245L + 12345L);
    }

    /** The voter of x, with the sign bits of x taken for ones of a number of 32 bits. */
    private static int voter(int x, int all) {
        return (int) ((x & 0xffffffffL) / 256 % all);
    }

    private static void promise35OneVoter() {
        RankedVotes x = new RankedVotes();
        int[] groupOf = {0, 0, 0, 1, 2, 2, 3, 3, 3, 3, 4};
        int[] sizes = {3, 1, 2, 4, 1};
        for (int g = 0; g < 5; g++) {
            x.addGroup(sizes[g], g + 1);
        }
        for (int seed : SEEDS) {
            int due = groupOf[voter(next(seed), 11)];
            for (int rule : new int[] {0, 1, 3, 8, 11}) {
                Check.due("sample(" + rule + ", " + seed + ", 1)", x.sample(rule, seed, 1), due);
            }
        }
    }

    private static void promise35ManyVoters() {
        RankedVotes x = new RankedVotes();
        x.addGroup(100, 3);
        x.addGroup(100, 2);
        x.addGroup(90, 5);
        for (int seed : SEEDS) {
            for (int size : new int[] {2, 7, 49, 50}) {
                int[] votes = new int[5];
                int drawn = seed;
                for (int i = 0; i < size; i++) {
                    drawn = next(drawn);
                    int voter = voter(drawn, 290);
                    votes[voter < 100 ? 2 : voter < 200 ? 1 : 4]++;
                }
                int due = 0;
                for (int c = 1; c < 5; c++) {
                    due = votes[c] > votes[due] ? c : due;
                }
                Check.due("sample(0, " + seed + ", " + size + ")", x.sample(0, seed, size), due);
            }
        }
        Check.due("allVoters() afterwards", x.allVoters(), 290);
        Check.due("winner(0) afterwards", x.winner(0), 1);
    }

    private static void promise35Errors() {
        RankedVotes x = new RankedVotes();
        Check.due("no groups: sample(0, 1, 1)", x.sample(0, 1, 1), BAD_STATE);
        Check.due("no groups: sample(0, 1, 0)", x.sample(0, 1, 0), BAD_VALUE);
        Check.due("no groups: sample(12, 1, 0)", x.sample(12, 1, 0), BAD_INDEX);
        x.addGroup(5, 1);
        for (int size : new int[] {0, -1, 51, Integer.MIN_VALUE, Integer.MAX_VALUE}) {
            Check.due("sample(0, 1, " + size + ")", x.sample(0, 1, size), BAD_VALUE);
        }
        Check.due("sample(0, 1, 50)", x.sample(0, 1, 50), 0);
        Check.due("sample(-1, 1, 1)", x.sample(-1, 1, 1), BAD_INDEX);
        for (int c = 0; c < 5; c++) {
            x.setStanding(c, false);
        }
        for (int rule = 0; rule < 12; rule++) {
            Check.due("nobody: sample(" + rule + ", 1, 1)", x.sample(rule, 1, 1), NONE);
        }
        x.removeGroup(0);
        Check.due("nobody, no groups: sample(0, 1, 1)", x.sample(0, 1, 1), BAD_STATE);
    }

    private static void promise36Agreeing() {
        RankedVotes x = new RankedVotes();
        x.addGroup(60, 4);
        x.addGroup(40, 2);
        for (int seed : SEEDS) {
            int drawn = seed;
            int due = 0;
            for (int i = 0; i < 20; i++) {
                int forFour = 0;
                for (int k = 0; k < 5; k++) {
                    drawn = next(drawn);
                    forFour += voter(drawn, 100) < 60 ? 1 : 0;
                }
                due += forFour >= 3 ? 1 : 0;
                Check.due("agreeing(0, " + seed + ", 5, " + (i + 1) + ")", x.agreeing(0, seed, 5, i + 1), due);
            }
        }
        RankedVotes all = new RankedVotes();
        all.addGroup(3, 21345);
        for (int rule = 0; rule < 12; rule++) {
            Check.due("agreeing(" + rule + ", 7, 50, 20)", all.agreeing(rule, 7, 50, 20), 20);
        }
    }

    private static void promise36Errors() {
        RankedVotes x = new RankedVotes();
        Check.due("no groups: agreeing(0, 1, 1, 1)", x.agreeing(0, 1, 1, 1), BAD_STATE);
        Check.due("no groups: agreeing(0, 1, 1, 21)", x.agreeing(0, 1, 1, 21), BAD_VALUE);
        x.addGroup(5, 1);
        for (int wrong : new int[] {0, -1, 51, Integer.MIN_VALUE, Integer.MAX_VALUE}) {
            Check.due("agreeing(0, 1, " + wrong + ", 1)", x.agreeing(0, 1, wrong, 1), BAD_VALUE);
            Check.due("agreeing(0, 1, 1, " + wrong + ")", x.agreeing(0, 1, 1, wrong), BAD_VALUE);
        }
        Check.due("agreeing(0, 1, 1, 21)", x.agreeing(0, 1, 1, 21), BAD_VALUE);
        for (int rule : new int[] {-1, 12, Integer.MIN_VALUE, Integer.MAX_VALUE}) {
            Check.due("agreeing(" + rule + ", 1, 0, 0)", x.agreeing(rule, 1, 0, 0), BAD_INDEX);
        }
        for (int c = 0; c < 5; c++) {
            x.setStanding(c, false);
        }
        Check.due("nobody: agreeing(0, 1, 1, 1)", x.agreeing(0, 1, 1, 1), BAD_STATE);
        Check.due("nobody: agreeing(0, 1, 51, 1)", x.agreeing(0, 1, 51, 1), BAD_VALUE);
    }

    private static void promise37Undo() {
        RankedVotes x = new RankedVotes();
        for (int g = 0; g < 8; g++) {
            x.addGroup(g + 1, 1);
        }
        for (int left = 4; left >= 0; left--) {
            Check.due("undo()", x.undo(), left);
            Check.due("groupCount() then", x.groupCount(), left + 3);
        }
        Check.due("undo() of no state", x.undo(), BAD_STATE);
        Check.due("groupCount() then", x.groupCount(), 3);
        // what is recorded now stands behind nothing of what was undone
        x.setVoters(2, 50);
        Check.due("undo()", x.undo(), 0);
        Check.due("voters(2)", x.voters(2), 3);
    }

    private static void promise37WhatIsRecorded() {
        RankedVotes x = new RankedVotes();
        x.addGroup(5, 123);
        x.addGroup(6, 12);
        Check.due("undo() of addGroup", x.undo(), 1);
        x.removeGroup(0);
        Check.due("undo() of removeGroup", x.undo(), 1);
        Check.due("ballot(0)", x.ballot(0), 123);
        x.exchange(0, 1);
        Check.due("undo() of exchange", x.undo(), 1);
        Check.due("ballot(0)", x.ballot(0), 123);
        x.setStanding(0, true);
        Check.due("undo() of a change of nothing", x.undo(), 1);
        x.type('1');
        x.type(':');
        x.type('4');
        x.textFault();
        x.load();
        Check.due("undo() of load", x.undo(), 1);
        Check.due("groupCount()", x.groupCount(), 1);
        x.winner(0);
        x.strategists(6);
        x.sample(0, 1, 1);
        x.removeGroup(1);
        x.setVoters(0, 101);
        x.exchange(0, 2);
        x.setStanding(5, true);
        x.addGroup(0, 1);
        x.clearText();
        x.load();
        Check.due("undo() of the first addGroup", x.undo(), 0);
        Check.due("groupCount()", x.groupCount(), 0);
        Check.due("undo() of no state", x.undo(), BAD_STATE);
    }

    private static void promise37NotTheText() {
        RankedVotes x = new RankedVotes();
        x.type('1');
        x.addGroup(1, 1);
        x.type(':');
        x.undo();
        Check.due("clearText() after undo()", x.clearText(), 2);
    }
}
