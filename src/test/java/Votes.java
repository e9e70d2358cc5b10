/** Elections for the tests, and what can be seen of one. */
final class Votes {
    static final int NONE = -1000000, BAD_INDEX = -1000001, BAD_VALUE = -1000002, BAD_STATE = -1000003,
        FULL = -1000004;
    static final int LEAST = Integer.MIN_VALUE, GREATEST = Integer.MAX_VALUE;
    static final int RULES = 12;

    private Votes() {
    }

    /** Withdrawn: a mask of candidates; votes: voters and ballot by turns. */
    static RankedVotes election(int withdrawn, int... votes) {
        RankedVotes x = new RankedVotes();
        withdraw(x, withdrawn);
        for (int i = 0; i < votes.length; i += 2) {
            x.addGroup(votes[i], votes[i + 1]);
        }
        return x;
    }

    static void withdraw(RankedVotes x, int withdrawn) {
        for (int c = 0; c < 5; c++) {
            if ((withdrawn >> c & 1) == 1) {
                x.setStanding(c, false);
            }
        }
    }

    /** Adds two groups that lead a to b by twice as many as each one has, and no other one to any. */
    static void lead(RankedVotes x, int a, int b, int voters) {
        int forth = 0;
        int back = 0;
        int ten = 1;
        for (int c = 4; c >= 0; c--) {
            if (c != a && c != b) {
                forth += (c + 1) * ten;
                back = back * 10 + c + 1;
                ten *= 10;
            }
        }
        int pair = (a + 1) * 10 + b + 1;
        x.addGroup(voters, pair * 1000 + forth);
        x.addGroup(voters, back * 100 + pair);
    }

    static void write(RankedVotes x, String text) {
        x.clearText();
        type(x, text);
    }

    static void type(RankedVotes x, String text) {
        for (int i = 0; i < text.length(); i++) {
            x.type(text.charAt(i));
        }
    }

    /** Who stands, and the groups: all that undo() brings back. */
    static String state(RankedVotes x) {
        int groups = x.groupCount();
        StringBuilder state = new StringBuilder();
        state.append(x.standing()).append(", ").append(groups).append(" groups:");
        for (int g = 0; g < groups; g++) {
            state.append(' ').append(x.voters(g)).append('x').append(x.ballot(g));
        }
        return state.toString();
    }

    /** All that there is: the state, the history and the text. Both are used up by this. */
    static String everything(RankedVotes x) {
        StringBuilder all = new StringBuilder(state(x));
        all.append("; fault ").append(x.textFault());
        // an object has at most five states behind it; one that has more is wrong
        for (int i = 0; i < 7; i++) {
            int left = x.undo();
            all.append("; undo ").append(left);
            if (left < 0) {
                break;
            }
            all.append(": ").append(state(x));
        }
        all.append("; load ").append(x.load()).append(": ").append(state(x));
        all.append("; length ").append(x.clearText());
        return all.toString();
    }

    /** The wrong numbers around 0 to below, and the ends of all ints. */
    static int[] outside(int below) {
        return new int[] {-1, below, LEAST, GREATEST, -2, below + 1, 1 << 16};
    }
}
