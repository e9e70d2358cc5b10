/** Promises 1 to 11: a new object, groups and candidates. */
public final class GroupsTest {
    private static final int BAD_INDEX = Votes.BAD_INDEX, BAD_VALUE = Votes.BAD_VALUE, BAD_STATE = Votes.BAD_STATE,
        FULL = Votes.FULL;
    private static final int[] NO_GROUPS = {-1, 2, 19, 20, Integer.MIN_VALUE, Integer.MAX_VALUE};

    public static void main(String[] args) {
        promise1NewObject();
        promise2AddGroup();
        promise2WrongBallots();
        promise2Full();
        promise3RemoveGroup();
        promise4SetVoters();
        promise5Exchange();
        promise6SetStanding();
        promises7To11();
        Check.finish();
    }

    private static RankedVotes withTwoGroups() {
        RankedVotes x = new RankedVotes();
        x.addGroup(7, 132);
        x.addGroup(9, 54321);
        return x;
    }

    private static void promise1NewObject() {
        RankedVotes x = new RankedVotes();
        withTwoGroups();
        Check.due("new: groupCount()", x.groupCount(), 0);
        Check.due("new: standing()", x.standing(), 31);
        Check.due("new: allVoters()", x.allVoters(), 0);
        Check.due("new: textFault()", x.textFault(), 0);
        Check.due("new: clearText()", x.clearText(), 0);
        Check.due("new: undo()", x.undo(), BAD_STATE);
        Check.due("new: winners(11)", x.winners(11), 31);
    }

    private static void promise2AddGroup() {
        RankedVotes x = new RankedVotes();
        Check.due("addGroup(1, 132)", x.addGroup(1, 132), 0);
        Check.due("addGroup(100, 5)", x.addGroup(100, 5), 1);
        Check.due("addGroup(50, 54321)", x.addGroup(50, 54321), 2);
        Check.due("ballot(0)", x.ballot(0), 132);
        Check.due("ballot(1)", x.ballot(1), 5);
        Check.due("ballot(2)", x.ballot(2), 54321);
        Check.due("voters(1)", x.voters(1), 100);
        Check.due("undo() of the third", x.undo(), 2);
        Check.due("groupCount() then", x.groupCount(), 2);
    }

    private static void promise2WrongBallots() {
        RankedVotes x = new RankedVotes();
        for (int voters : new int[] {0, 101, -1, Integer.MIN_VALUE, Integer.MAX_VALUE}) {
            Check.due("addGroup(" + voters + ", 123)", x.addGroup(voters, 123), BAD_VALUE);
        }
        for (int ballot : new int[] {0, -1, -12, 6, 9, 10, 102, 16, 61, 11, 121, 12344, 123451, 1234512345,
            Integer.MIN_VALUE, Integer.MAX_VALUE}) {
            Check.due("addGroup(3, " + ballot + ")", x.addGroup(3, ballot), BAD_VALUE);
        }
        Check.due("groupCount() after wrong ones", x.groupCount(), 0);
        Check.due("undo() after wrong ones", x.undo(), BAD_STATE);
    }

    private static void promise2Full() {
        RankedVotes x = new RankedVotes();
        for (int g = 0; g < 20; g++) {
            Check.due("addGroup as number " + g, x.addGroup(100, 1 + g % 5), g);
        }
        Check.due("addGroup(1, 1) as a 21st", x.addGroup(1, 1), FULL);
        Check.due("addGroup(0, 1) as a 21st", x.addGroup(0, 1), BAD_VALUE);
        Check.due("addGroup(1, 11) as a 21st", x.addGroup(1, 11), BAD_VALUE);
        Check.due("allVoters() of 20 groups", x.allVoters(), 2000);
        Check.due("removeGroup(19)", x.removeGroup(19), 19);
        Check.due("addGroup(1, 1) again", x.addGroup(1, 1), 19);
    }

    private static void promise3RemoveGroup() {
        RankedVotes x = new RankedVotes();
        x.addGroup(1, 1);
        x.addGroup(2, 2);
        x.addGroup(3, 3);
        x.addGroup(4, 4);
        Check.due("removeGroup(1)", x.removeGroup(1), 3);
        Check.due("voters(0)", x.voters(0), 1);
        Check.due("voters(1)", x.voters(1), 3);
        Check.due("ballot(2)", x.ballot(2), 4);
        Check.due("voters(3)", x.voters(3), BAD_INDEX);
        Check.due("removeGroup(3)", x.removeGroup(3), BAD_INDEX);
        Check.due("removeGroup(-1)", x.removeGroup(-1), BAD_INDEX);
        Check.due("removeGroup(2)", x.removeGroup(2), 2);
        Check.due("removeGroup(0)", x.removeGroup(0), 1);
        Check.due("removeGroup(0)", x.removeGroup(0), 0);
        Check.due("removeGroup(0) of none", x.removeGroup(0), BAD_INDEX);
        Check.due("undo() of the last", x.undo(), 4);
        Check.due("ballot(0) then", x.ballot(0), 3);
    }

    private static void promise4SetVoters() {
        RankedVotes x = withTwoGroups();
        Check.due("setVoters(0, 100)", x.setVoters(0, 100), 7);
        Check.due("setVoters(0, 1)", x.setVoters(0, 1), 100);
        Check.due("voters(0)", x.voters(0), 1);
        Check.due("voters(1)", x.voters(1), 9);
        Check.due("ballot(0)", x.ballot(0), 132);
        Check.due("setVoters(0, 0)", x.setVoters(0, 0), BAD_VALUE);
        Check.due("setVoters(1, 101)", x.setVoters(1, 101), BAD_VALUE);
        for (int g : NO_GROUPS) {
            Check.due("setVoters(" + g + ", 5)", x.setVoters(g, 5), BAD_INDEX);
            Check.due("setVoters(" + g + ", 0)", x.setVoters(g, 0), BAD_INDEX);
        }
        Check.due("setVoters(1, 9), which changes nothing", x.setVoters(1, 9), 9);
        Check.due("undo() of that", x.undo(), 4);
        Check.due("undo()", x.undo(), 3);
        Check.due("voters(0) then", x.voters(0), 100);
    }

    private static void promise5Exchange() {
        RankedVotes x = withTwoGroups();
        Check.due("exchange(1, 0)", x.exchange(1, 0), 45321);
        Check.due("exchange(1, 3)", x.exchange(1, 3), 45312);
        Check.due("exchange(1, 2)", x.exchange(1, 2), 45132);
        Check.due("ballot(1)", x.ballot(1), 45132);
        Check.due("exchange(0, 1)", x.exchange(0, 1), 123);
        Check.due("exchange(0, 2)", x.exchange(0, 2), BAD_INDEX);
        Check.due("exchange(0, -1)", x.exchange(0, -1), BAD_INDEX);
        Check.due("exchange(1, 4)", x.exchange(1, 4), BAD_INDEX);
        Check.due("exchange(1, 5)", x.exchange(1, 5), BAD_INDEX);
        Check.due("exchange(1, greatest)", x.exchange(1, Integer.MAX_VALUE), BAD_INDEX);
        Check.due("exchange(1, least)", x.exchange(1, Integer.MIN_VALUE), BAD_INDEX);
        for (int g : NO_GROUPS) {
            Check.due("exchange(" + g + ", 0)", x.exchange(g, 0), BAD_INDEX);
        }
        Check.due("undo()", x.undo(), 4);
        Check.due("ballot(0) then", x.ballot(0), 132);
        x.setStanding(2, false);
        Check.due("exchange(0, 0) with a withdrawn one", x.exchange(0, 0), 312);
    }

    private static void promise6SetStanding() {
        RankedVotes x = new RankedVotes();
        Check.due("setStanding(3, true)", x.setStanding(3, true), 1);
        Check.due("setStanding(3, false)", x.setStanding(3, false), 1);
        Check.due("standing()", x.standing(), 23);
        Check.due("setStanding(3, false)", x.setStanding(3, false), 0);
        Check.due("setStanding(0, false)", x.setStanding(0, false), 1);
        Check.due("standing()", x.standing(), 22);
        Check.due("setStanding(3, true)", x.setStanding(3, true), 0);
        Check.due("standing()", x.standing(), 30);
        for (int c : new int[] {-1, 5, 32, Integer.MIN_VALUE, Integer.MAX_VALUE}) {
            Check.due("setStanding(" + c + ", false)", x.setStanding(c, false), BAD_INDEX);
        }
        Check.due("standing()", x.standing(), 30);
        Check.due("undo()", x.undo(), 4);
        Check.due("standing()", x.standing(), 22);
        Check.due("undo()", x.undo(), 3);
        Check.due("undo()", x.undo(), 2);
        Check.due("standing()", x.standing(), 23);
    }

    private static void promises7To11() {
        RankedVotes x = withTwoGroups();
        for (int c = 0; c < 5; c++) {
            x.setStanding(c, false);
            Check.due("standing() without 0 to " + c, x.standing(), 31 - ((2 << c) - 1));
        }
        Check.due("groupCount()", x.groupCount(), 2);
        Check.due("voters(0)", x.voters(0), 7);
        Check.due("voters(1)", x.voters(1), 9);
        Check.due("ballot(0) of withdrawn ones", x.ballot(0), 132);
        Check.due("ballot(1) of withdrawn ones", x.ballot(1), 54321);
        Check.due("allVoters() with empty ballots", x.allVoters(), 16);
        for (int g : NO_GROUPS) {
            Check.due("voters(" + g + ")", x.voters(g), BAD_INDEX);
            Check.due("ballot(" + g + ")", x.ballot(g), BAD_INDEX);
        }
        x.removeGroup(0);
        Check.due("allVoters() of one group", x.allVoters(), 9);
    }
}
