import java.math.BigInteger;

/** The sentences that bound samples: promises 35 and 36 at their edges. */
public final class SampleEdgeTest {
    private static final int NONE = Votes.NONE, BAD_INDEX = Votes.BAD_INDEX, BAD_VALUE = Votes.BAD_VALUE,
        BAD_STATE = Votes.BAD_STATE;
    private static final int[] NO_SIZES = {0, 51, -1, 52, 100, 256 + 1, Votes.LEAST, Votes.GREATEST};
    private static final int[] NO_MANY = {0, 21, -1, 22, 50, 256 + 1, Votes.LEAST, Votes.GREATEST};
    private static final int[] SEEDS = {0, 1, -1, 2, 255, 256, -256, 12345, -12345, 1 << 16, 1 << 24, 1 << 31,
        0x7fffff00, 0x7fffffff, 0x80000001, 2000000011, -2000000011, Votes.LEAST, Votes.GREATEST};

    public static void main(String[] args) {
        votersGroupAfterGroup();
        overflow();
        signIsNoSign();
        withReplacement();
        eachAsOftenAsDrawn();
        sizes();
        manySamples();
        furtherSamples();
        oneVoter();
        nobodyStands();
        noGroups();
        Check.finish();
    }

    /** x * 1103515245 + 12345 without an overflow, cut to 32 bits only then. */
    private static int next(int x) {
        BigInteger product = BigInteger.valueOf(x).multiply(BigInteger.valueOf(1103515245));
        return product.add(BigInteger.valueOf(12345)).intValue();
    }

    private static int voter(int x, int n) {
        return (int) ((x & 0xffffffffL) / 256 % n);
    }

    private static void votersGroupAfterGroup() {
        Check.sentence("The voters are numbered from 0, group after group.");
        // the first and the last voter of each group, and all between
        RankedVotes x = Votes.election(0, 1, 3, 3, 1, 2, 5, 100, 2, 1, 4);
        int[] ends = {1, 4, 6, 106, 107};
        int[] candidates = {2, 0, 4, 1, 3};
        int found = 0;
        for (int seed = 0; found < 107 && seed < 100000; seed++) {
            int drawn = voter(next(seed), 107);
            // each voter once, in their order
            if (drawn == found) {
                int group = 0;
                while (drawn >= ends[group]) {
                    group++;
                }
                Check.due("voter " + drawn + ": sample(0, " + seed + ", 1)", x.sample(0, seed, 1), candidates[group]);
                found++;
            }
        }
        Check.due("voters that were drawn", found, 107);
    }

    private static void overflow() {
        Check.sentence("for each voter of the sample x becomes x * 1103515245 + 12345 (int arithmetic with overflow)");
        RankedVotes x = Votes.election(0, 97, 1, 89, 2, 83, 3, 79, 4, 73, 5);
        for (int seed : SEEDS) {
            for (int size : new int[] {1, 2, 3, 49, 50}) {
                int[] votes = new int[5];
                int drawn = seed;
                for (int i = 0; i < size; i++) {
                    drawn = next(drawn);
                    int voter = voter(drawn, 421);
                    votes[voter < 97 ? 0 : voter < 186 ? 1 : voter < 269 ? 2 : voter < 348 ? 3 : 4]++;
                }
                int due = 0;
                for (int c = 1; c < 5; c++) {
                    due = votes[c] > votes[due] ? c : due;
                }
                Check.due("sample(0, " + seed + ", " + size + ")", x.sample(0, seed, size), due);
            }
        }
    }

    private static void signIsNoSign() {
        Check.sentence("and voter (x >>> 8) % n is drawn.");
        // of two voters the one by the ninth bit, whatever the sign is
        RankedVotes x = Votes.election(0, 1, 1, 1, 2);
        int negative = 0;
        for (int seed = 0; seed < 64; seed++) {
            int drawn = seed * 0x9e3779b9;
            negative += next(drawn) < 0 ? 1 : 0;
            Check.due("sample(0, " + drawn + ", 1)", x.sample(0, drawn, 1), next(drawn) >> 8 & 1);
        }
        Check.due("both signs were there", negative > 20 && negative < 44 ? 1 : 0, 1);
        RankedVotes all = new RankedVotes();
        for (int g = 0; g < 20; g++) {
            all.addGroup(100, 1 + g % 5);
        }
        for (int seed : SEEDS) {
            int due = voter(next(seed), 2000) / 100 % 5;
            Check.due("2000 voters: sample(0, " + seed + ", 1)", all.sample(0, seed, 1), due);
        }
    }

    private static void withReplacement() {
        Check.sentence("A sample is drawn with an int x, with replacement:");
        // one voter is drawn fifty times: by Bucklin 25 of 50 were not enough
        RankedVotes x = Votes.election(0, 1, 4);
        for (int rule = 0; rule < Votes.RULES; rule++) {
            Check.due("one voter: sample(" + rule + ", 7, 50)", x.sample(rule, 7, 50), 3);
            Check.due("one voter: agreeing(" + rule + ", 7, 50, 20)", x.agreeing(rule, 7, 50, 20), 20);
        }
    }

    private static void eachAsOftenAsDrawn() {
        Check.sentence("Its winner is that of the rule if just the drawn ballots are cast, each as often as it was drawn.");
        int[] ballots = {123, 45, 3, 51, 24, 13542};
        int[] sizes = {7, 1, 3, 12, 5, 9};
        RankedVotes x = Votes.election(8);
        for (int g = 0; g < 6; g++) {
            x.addGroup(sizes[g], ballots[g]);
        }
        for (int seed : SEEDS) {
            int[] drawn = new int[6];
            int now = seed;
            for (int i = 0; i < 25; i++) {
                now = next(now);
                int voter = voter(now, 37);
                int group = 0;
                while (voter >= sizes[group]) {
                    voter -= sizes[group];
                    group++;
                }
                drawn[group]++;
            }
            RankedVotes cast = Votes.election(8);
            for (int g = 0; g < 6; g++) {
                if (drawn[g] > 0) {
                    cast.addGroup(drawn[g], ballots[g]);
                }
            }
            for (int rule = 0; rule < Votes.RULES; rule++) {
                Check.due("sample(" + rule + ", " + seed + ", 25)", x.sample(rule, seed, 25), cast.winner(rule));
            }
        }
    }

    private static void sizes() {
        Check.sentence("- `size`: the number of voters of the sample, 1 to 50");
        RankedVotes x = Votes.election(0, 5, 2);
        for (int size = 1; size <= 50; size++) {
            Check.due("sample(0, 3, " + size + ")", x.sample(0, 3, size), 1);
            Check.due("agreeing(0, 3, " + size + ", 2)", x.agreeing(0, 3, size, 2), 2);
        }
        for (int size : NO_SIZES) {
            Check.due("sample(0, 3, " + size + ")", x.sample(0, 3, size), BAD_VALUE);
            Check.due("agreeing(0, 3, " + size + ", 2)", x.agreeing(0, 3, size, 2), BAD_VALUE);
            Check.due("agreeing(0, 3, " + size + ", 0)", x.agreeing(0, 3, size, 0), BAD_VALUE);
        }
    }

    private static void manySamples() {
        Check.sentence("- `many`: how many samples, 1 to 20");
        RankedVotes x = Votes.election(0, 5, 2);
        for (int many = 1; many <= 20; many++) {
            Check.due("agreeing(0, 3, 1, " + many + ")", x.agreeing(0, 3, 1, many), many);
            Check.due("agreeing(0, 3, 50, " + many + ")", x.agreeing(0, 3, 50, many), many);
        }
        for (int many : NO_MANY) {
            Check.due("agreeing(0, 3, 1, " + many + ")", x.agreeing(0, 3, 1, many), BAD_VALUE);
            Check.due("agreeing(0, 3, 50, " + many + ")", x.agreeing(0, 3, 50, many), BAD_VALUE);
        }
    }

    private static void furtherSamples() {
        Check.sentence("The first one is drawn with x, each further one with x as it is after the one before.");
        RankedVotes x = Votes.election(0, 30, 3, 20, 1, 25, 45);
        for (int rule : new int[] {0, 1, 6, 8}) {
            for (int size : new int[] {1, 4, 50}) {
                for (int seed : new int[] {5, Votes.LEAST, Votes.GREATEST}) {
                    int due = 0;
                    int now = seed;
                    for (int many = 1; many <= 20; many++) {
                        due += x.sample(rule, now, size) == x.winner(rule) ? 1 : 0;
                        for (int i = 0; i < size; i++) {
                            now = next(now);
                        }
                        if (many == 1 || many == 2 || many == 20) {
                            Check.due("agreeing(" + rule + ", " + seed + ", " + size + ", " + many + ")",
                                x.agreeing(rule, seed, size, many), due);
                        }
                    }
                    // an object is used for 512 calls
                    x = Votes.election(0, 30, 3, 20, 1, 25, 45);
                }
            }
        }
    }

    private static void oneVoter() {
        Check.sentence("Returns the number of samples whose winner is that of the rule;");
        // of two voters the lower one is the winner of the whole, and of the samples that draw it
        RankedVotes x = Votes.election(0, 1, 1, 1, 2);
        int due = 0;
        int now = 99;
        for (int i = 0; i < 20; i++) {
            now = next(now);
            due += voter(now, 2) == 0 ? 1 : 0;
        }
        Check.due("one of two: agreeing(0, 99, 1, 20)", x.agreeing(0, 99, 1, 20), due);
        // none agrees: each sample of one has its own voter's first one, all have their second one
        RankedVotes y = Votes.election(0, 1, 12, 1, 32, 1, 42);
        Check.due("none: winner(8)", y.winner(8), 1);
        Check.due("none: agreeing(8, 99, 1, 20)", y.agreeing(8, 99, 1, 20), 0);
    }

    private static void nobodyStands() {
        Check.sentence("Returns its winner; NONE if no candidate stands; BAD_INDEX if there is no such rule; BAD_VALUE if "
            + "size is out of range; BAD_STATE if there are no groups.");
        RankedVotes x = Votes.election(31, 5, 12345);
        for (int rule = 0; rule < Votes.RULES; rule++) {
            Check.due("nobody stands: sample(" + rule + ", 1, 1)", x.sample(rule, 1, 1), NONE);
            Check.due("nobody stands: sample(" + rule + ", 1, 51)", x.sample(rule, 1, 51), BAD_VALUE);
            Check.due("nobody stands: agreeing(" + rule + ", 1, 1, 1)", x.agreeing(rule, 1, 1, 1), BAD_STATE);
            Check.due("nobody stands: agreeing(" + rule + ", 1, 1, 21)", x.agreeing(rule, 1, 1, 21), BAD_VALUE);
        }
        for (int rule : Votes.outside(12)) {
            Check.due("nobody stands: sample(" + rule + ", 1, 1)", x.sample(rule, 1, 1), BAD_INDEX);
            Check.due("nobody stands: agreeing(" + rule + ", 1, 1, 1)", x.agreeing(rule, 1, 1, 1), BAD_INDEX);
        }
        // groups of whom nobody ranks one who stands are groups
        RankedVotes y = Votes.election(3, 5, 1, 5, 2);
        Check.due("empty ballots: sample(0, 1, 50)", y.sample(0, 1, 50), 2);
        Check.due("empty ballots: agreeing(0, 1, 50, 20)", y.agreeing(0, 1, 50, 20), 20);
    }

    private static void noGroups() {
        Check.sentence("BAD_VALUE if size or many is out of range; BAD_STATE if there are no groups, or no candidate stands.");
        for (int withdrawn : new int[] {0, 31}) {
            RankedVotes x = Votes.election(withdrawn);
            String name = "no groups without " + withdrawn + ": ";
            Check.due(name + "sample(0, 1, 1)", x.sample(0, 1, 1), BAD_STATE);
            Check.due(name + "sample(0, 1, 50)", x.sample(0, 1, 50), BAD_STATE);
            Check.due(name + "sample(0, 1, 0)", x.sample(0, 1, 0), BAD_VALUE);
            Check.due(name + "sample(0, 1, 51)", x.sample(0, 1, 51), BAD_VALUE);
            Check.due(name + "sample(12, 1, 51)", x.sample(12, 1, 51), BAD_INDEX);
            Check.due(name + "agreeing(11, 1, 1, 1)", x.agreeing(11, 1, 1, 1), BAD_STATE);
            Check.due(name + "agreeing(11, 1, 50, 20)", x.agreeing(11, 1, 50, 20), BAD_STATE);
            Check.due(name + "agreeing(0, 1, 0, 1)", x.agreeing(0, 1, 0, 1), BAD_VALUE);
            Check.due(name + "agreeing(0, 1, 51, 1)", x.agreeing(0, 1, 51, 1), BAD_VALUE);
            Check.due(name + "agreeing(0, 1, 1, 0)", x.agreeing(0, 1, 1, 0), BAD_VALUE);
            Check.due(name + "agreeing(0, 1, 1, 21)", x.agreeing(0, 1, 1, 21), BAD_VALUE);
            Check.due(name + "agreeing(12, 1, 51, 21)", x.agreeing(12, 1, 51, 21), BAD_INDEX);
        }
    }
}
