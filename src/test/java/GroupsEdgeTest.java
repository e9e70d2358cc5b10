/** The sentences that bound candidates, groups and ballots, and promises 1 to 11 at their edges. */
public final class GroupsEdgeTest {
    private static final int BAD_INDEX = Votes.BAD_INDEX, BAD_VALUE = Votes.BAD_VALUE, BAD_STATE = Votes.BAD_STATE,
        FULL = Votes.FULL;

    public static void main(String[] args) {
        newObject();
        fiveCandidates();
        candidatesStandAtFirst();
        twentyGroups();
        groupsAreNumberedFromZero();
        oneToHundredVoters();
        setVotersFromOneToHundred();
        everyBallot();
        ballotsOfWrongDigits();
        notOnTheBallot();
        ballotsWithoutWithdrawnOnes();
        emptyBallotsCount();
        followingNumbersDecrease();
        exchangeAtTheEnds();
        exchangeSeesWithdrawnOnes();
        stoodBefore();
        masks();
        aLongLife();
        Check.finish();
    }

    private static void newObject() {
        Check.sentence("Creates an election without groups, in which all candidates stand, with an empty text.");
        RankedVotes x = new RankedVotes();
        Check.due("new: state", Votes.state(x), "31, 0 groups:");
        Check.due("new: allVoters()", x.allVoters(), 0);
        Check.due("new: textFault()", x.textFault(), 0);
        Check.due("new: undo()", x.undo(), BAD_STATE);
        Check.due("new: load()", x.load(), BAD_STATE);
        Check.due("new: clearText()", x.clearText(), 0);
        Check.due("new: type(49)", x.type('1'), 1);
        // a second object has nothing of the first one
        x.addGroup(5, 1);
        x.setStanding(2, false);
        Check.due("another new one", Votes.everything(new RankedVotes()),
            "31, 0 groups:; fault 0; undo -1000003; load -1000003: 31, 0 groups:; length 0");
    }

    private static void fiveCandidates() {
        Check.sentence("There are 5 candidates, numbered from 0.");
        RankedVotes x = Votes.election(0, 1, 12345);
        for (int c = 0; c < 5; c++) {
            int other = c == 0 ? 4 : 0;
            Check.due("setStanding(" + c + ", true)", x.setStanding(c, true), 1);
            Check.due("pair(" + c + ", " + c + ")", x.pair(c, c), 0);
            Check.due("points(1, " + c + ")", x.points(1, c), 8 - 2 * c);
            Check.due("strength(" + c + ", " + other + ")", x.strength(c, other), c < other ? 1 : 0);
            Check.due("isLocked(" + c + ", " + other + ")", x.isLocked(c, other), c < other ? 1 : 0);
            Check.due("tally(6, 0, " + c + ")", x.tally(6, 0, c), c == 0 ? 1 : 0);
        }
        for (int c : Votes.outside(5)) {
            Check.due("setStanding(" + c + ", true)", x.setStanding(c, true), BAD_INDEX);
            Check.due("setStanding(" + c + ", false)", x.setStanding(c, false), BAD_INDEX);
            Check.due("pair(" + c + ", 4)", x.pair(c, 4), BAD_INDEX);
            Check.due("pair(4, " + c + ")", x.pair(4, c), BAD_INDEX);
            Check.due("pair(" + c + ", " + c + ")", x.pair(c, c), BAD_INDEX);
            Check.due("points(1, " + c + ")", x.points(1, c), BAD_INDEX);
            Check.due("strength(" + c + ", 4)", x.strength(c, 4), BAD_INDEX);
            Check.due("strength(4, " + c + ")", x.strength(4, c), BAD_INDEX);
            Check.due("isLocked(" + c + ", 4)", x.isLocked(c, 4), BAD_INDEX);
            Check.due("isLocked(4, " + c + ")", x.isLocked(4, c), BAD_INDEX);
            Check.due("tally(6, 0, " + c + ")", x.tally(6, 0, c), BAD_INDEX);
            Check.due("tally(7, 0, " + c + ")", Votes.election(0).tally(7, 0, c), BAD_INDEX);
        }
        Check.due("standing() after wrong ones", x.standing(), 31);
    }

    private static void candidatesStandAtFirst() {
        Check.sentence("A candidate stands (at first), or is withdrawn.");
        for (int c = 0; c < 5; c++) {
            Check.due("new: setStanding(" + c + ", false)", new RankedVotes().setStanding(c, false), 1);
        }
    }

    private static RankedVotes full() {
        RankedVotes x = new RankedVotes();
        for (int g = 0; g < 20; g++) {
            Check.due("addGroup(" + (g + 1) + ", 1) as number " + g, x.addGroup(g + 1, 1 + g % 5), g);
        }
        return x;
    }

    private static void twentyGroups() {
        Check.sentence("There are at most 20 groups of voters, numbered from 0;");
        RankedVotes x = full();
        Check.due("groupCount() of 20", x.groupCount(), 20);
        String before = Votes.state(x);
        Check.due("addGroup(1, 1) as a 21st", x.addGroup(1, 1), FULL);
        Check.due("addGroup(100, 54321) as a 21st", x.addGroup(100, 54321), FULL);
        Check.due("the 20 groups then", Votes.state(x), before);
        Check.due("undo() of the 20th, not of a refused one", x.undo(), 4);
        Check.due("groupCount() then", x.groupCount(), 19);
        Check.due("addGroup(7, 4) as the 20th again", x.addGroup(7, 4), 19);
        Check.due("addGroup(7, 4) as a 21st again", x.addGroup(7, 4), FULL);
        Check.sentence("FULL if there are 20 groups.");
        for (int groups = 0; groups <= 20; groups++) {
            RankedVotes y = new RankedVotes();
            for (int g = 0; g < groups; g++) {
                y.addGroup(1, 1);
            }
            Check.due("addGroup(1, 1) behind " + groups, y.addGroup(1, 1), groups == 20 ? FULL : groups);
        }
    }

    private static void groupsAreNumberedFromZero() {
        Check.sentence("BAD_INDEX if there is no such group");
        for (int groups : new int[] {0, 1, 2, 19, 20}) {
            RankedVotes x = new RankedVotes();
            for (int g = 0; g < groups; g++) {
                x.addGroup(g + 3, 12);
            }
            for (int g : new int[] {0, groups - 1}) {
                if (groups > 0) {
                    Check.due(groups + " groups: voters(" + g + ")", x.voters(g), g + 3);
                    Check.due(groups + " groups: ballot(" + g + ")", x.ballot(g), 12);
                    Check.due(groups + " groups: setVoters(" + g + ", 50)", x.setVoters(g, 50), g + 3);
                    Check.due(groups + " groups: setVoters back", x.setVoters(g, g + 3), 50);
                    Check.due(groups + " groups: exchange(" + g + ", 0)", x.exchange(g, 0), 21);
                    Check.due(groups + " groups: exchange back", x.exchange(g, 0), 12);
                    Check.due(groups + " groups: strategy(0, " + g + ")", x.strategy(0, g), Votes.NONE);
                    Check.due(groups + " groups: strategyAt(0, " + g + ", 0)", x.strategyAt(0, g, 0), Votes.NONE);
                }
            }
            for (int g : Votes.outside(groups)) {
                Check.due(groups + " groups: voters(" + g + ")", x.voters(g), BAD_INDEX);
                Check.due(groups + " groups: ballot(" + g + ")", x.ballot(g), BAD_INDEX);
                Check.due(groups + " groups: setVoters(" + g + ", 50)", x.setVoters(g, 50), BAD_INDEX);
                Check.due(groups + " groups: exchange(" + g + ", 0)", x.exchange(g, 0), BAD_INDEX);
                Check.due(groups + " groups: removeGroup(" + g + ")", x.removeGroup(g), BAD_INDEX);
                Check.due(groups + " groups: strategy(0, " + g + ")", x.strategy(0, g), BAD_INDEX);
                Check.due(groups + " groups: strategyAt(0, " + g + ", 0)", x.strategyAt(0, g, 0), BAD_INDEX);
            }
            Check.due("groupCount() of " + groups, x.groupCount(), groups);
            if (groups > 0) {
                Check.due(groups + " groups: removeGroup of the last", x.removeGroup(groups - 1), groups - 1);
            }
        }
    }

    private static void oneToHundredVoters() {
        Check.sentence("- `voters`: its number of voters, 1 to 100");
        for (int voters = -1; voters <= 102; voters++) {
            RankedVotes x = new RankedVotes();
            boolean fits = voters >= 1 && voters <= 100;
            Check.due("addGroup(" + voters + ", 5)", x.addGroup(voters, 5), fits ? 0 : BAD_VALUE);
            Check.due("addGroup(" + voters + ", 5): allVoters()", x.allVoters(), fits ? voters : 0);
            Check.due("addGroup(" + voters + ", 5): undo()", x.undo(), fits ? 0 : BAD_STATE);
        }
        for (int voters : new int[] {Votes.LEAST, Votes.GREATEST, 1 << 8, (1 << 8) + 1, (1 << 16) + 1, -100}) {
            Check.due("addGroup(" + voters + ", 5)", new RankedVotes().addGroup(voters, 5), BAD_VALUE);
        }
    }

    private static void setVotersFromOneToHundred() {
        Check.sentence("BAD_VALUE if voters is out of range.");
        RankedVotes x = Votes.election(0, 40, 1, 60, 2);
        int had = 60;
        for (int voters : new int[] {1, 100, 100, 2, 99}) {
            Check.due("setVoters(1, " + voters + ")", x.setVoters(1, voters), had);
            had = voters;
        }
        for (int voters : new int[] {0, 101, -1, 102, 356, -100, Votes.LEAST, Votes.GREATEST}) {
            Check.due("setVoters(1, " + voters + ")", x.setVoters(1, voters), BAD_VALUE);
            Check.due("setVoters(1, " + voters + "): voters(1)", x.voters(1), 99);
        }
        Check.due("voters(0) of the other group", x.voters(0), 40);
        Check.due("undo() of the last that was taken", x.undo(), 4);
        Check.due("voters(1) then", x.voters(1), 2);
    }

    /** Whether the digits of a number are 1 to 5 different ones from 1 to 5, looked at as a text. */
    private static boolean isBallot(int number) {
        String digits = Integer.toString(number);
        boolean fits = digits.length() <= 5;
        for (int i = 0; i < digits.length(); i++) {
            fits &= "12345".indexOf(digits.charAt(i)) >= 0 && digits.indexOf(digits.charAt(i)) == i;
        }
        return fits;
    }

    private static void everyBallot() {
        Check.sentence("a ballot, a sequence of 1 to 5 different candidates");
        int taken = 0;
        RankedVotes x = new RankedVotes();
        for (int ballot = -60000; ballot <= 130000; ballot++) {
            // an object is used for 512 calls
            x = ballot % 256 == 0 ? new RankedVotes() : x;
            int answer = x.addGroup(1, ballot);
            int due = isBallot(ballot) ? 0 : BAD_VALUE;
            if (answer != due) {
                Check.due("addGroup(1, " + ballot + ")", answer, due);
            }
            if (answer == 0) {
                taken++;
                Check.due("addGroup(1, " + ballot + "): ballot(0)", x.ballot(0), ballot);
                x = new RankedVotes();
            }
        }
        Check.due("ballots that were taken", taken, 5 + 20 + 60 + 120 + 120);
    }

    private static void ballotsOfWrongDigits() {
        Check.sentence("BAD_VALUE if voters is out of range, or ballot is not like that;");
        int[] wrong = {0, 6, 7, 8, 9, 10, 50, 60, 11, 55, 121, 11111, 12341, 12340, 10234, 12346, 62345, 123451,
            123456, 543211, 1234512345, 2147454321, -1, -5, -12345, Votes.LEAST, Votes.GREATEST};
        for (int ballot : wrong) {
            RankedVotes x = new RankedVotes();
            Check.due("addGroup(1, " + ballot + ")", x.addGroup(1, ballot), BAD_VALUE);
            Check.due("addGroup(1, " + ballot + "): groupCount()", x.groupCount(), 0);
            Check.due("addGroup(1, " + ballot + "): undo()", x.undo(), BAD_STATE);
        }
        for (int ballot : new int[] {1, 5, 15, 51, 12345, 54321}) {
            Check.due("addGroup(1, " + ballot + ")", new RankedVotes().addGroup(1, ballot), 0);
        }
    }

    private static void notOnTheBallot() {
        Check.sentence("All candidates that are not on the ballot are ranked below those that are on it, and equally.");
        RankedVotes x = Votes.election(0, 7, 42);
        Check.due("42: pair(3, 1)", x.pair(3, 1), 7);
        Check.due("42: pair(1, 3)", x.pair(1, 3), 0);
        for (int c : new int[] {0, 2, 4}) {
            Check.due("42: pair(1, " + c + ")", x.pair(1, c), 7);
            Check.due("42: pair(" + c + ", 1)", x.pair(c, 1), 0);
            Check.due("42: pair(" + c + ", " + (c + 2) % 6 + ")", x.pair(c, (c + 2) % 6), 0);
        }
    }

    private static void ballotsWithoutWithdrawnOnes() {
        Check.sentence("In everything below ballots are looked at without the candidates that do not stand");
        // without 2, who is first, and 4, who is between, 0 is first and 1 is second
        RankedVotes x = Votes.election(20, 9, 31524);
        int[] borda = {36, 18, BAD_STATE, 0, BAD_STATE};
        for (int c = 0; c < 5; c++) {
            Check.due("points(1, " + c + ") without 2 and 4", x.points(1, c), borda[c]);
        }
        Check.due("points(0, 0) without 2 and 4", x.points(0, 0), 9);
        Check.due("kemenyValue() without 2 and 4", x.kemenyValue(), 27);
        Check.due("ballot(0) with them", x.ballot(0), 31524);
        x.setStanding(2, true);
        Check.due("points(0, 0) without 4", x.points(0, 0), 0);
        Check.due("points(0, 2) without 4", x.points(0, 2), 9);
    }

    private static void emptyBallotsCount() {
        Check.sentence("a ballot can be empty then.");
        RankedVotes x = Votes.election(28, 3, 543, 5, 4);
        for (int rule : new int[] {0, 2, 3, 8}) {
            int due = rule == 2 ? 1 : 0;
            Check.due("empty ballots: points(" + rule + ", 0)", x.points(rule, 0), due);
        }
        Check.due("empty ballots: points(1, 0)", x.points(1, 0), 8);
        Check.due("empty ballots: pair(0, 1)", x.pair(0, 1), 0);
        Check.sentence("n is the number of all voters (also those with empty ballots).");
        Check.due("empty ballots: allVoters()", x.allVoters(), 8);
        Votes.withdraw(x, 3);
        Check.due("nobody stands: allVoters()", x.allVoters(), 8);
        Check.due("no groups: allVoters()", new RankedVotes().allVoters(), 0);
        RankedVotes y = new RankedVotes();
        for (int g = 0; g < 20; g++) {
            y.addGroup(100, 1);
        }
        Check.due("20 groups of 100: allVoters()", y.allVoters(), 2000);
    }

    private static void followingNumbersDecrease() {
        Check.sentence("Removes a group; the numbers of the following ones decrease by 1.");
        for (int gone = 0; gone < 20; gone++) {
            RankedVotes x = full();
            Check.due("removeGroup(" + gone + ") of 20", x.removeGroup(gone), 19);
            for (int g = 0; g < 19; g++) {
                int was = g < gone ? g : g + 1;
                Check.due("without " + gone + ": voters(" + g + ")", x.voters(g), was + 1);
                Check.due("without " + gone + ": ballot(" + g + ")", x.ballot(g), 1 + was % 5);
            }
            Check.due("without " + gone + ": voters(19)", x.voters(19), BAD_INDEX);
            Check.due("without " + gone + ": allVoters()", x.allVoters(), 210 - gone - 1);
        }
        RankedVotes y = Votes.election(0, 5, 1);
        Check.due("removeGroup(0) of one", y.removeGroup(0), 0);
        Check.due("removeGroup(0) of none", y.removeGroup(0), BAD_INDEX);
        Check.due("addGroup(6, 2) behind none", y.addGroup(6, 2), 0);
        Check.due("voters(0) of the new one", y.voters(0), 6);
    }

    private static void exchangeAtTheEnds() {
        Check.sentence("BAD_INDEX if there is no such group, or place or place + 1 is no place of its ballot.");
        int[] ballots = {1, 12, 123, 1234, 12345};
        int[][] due = {{}, {21}, {213, 132}, {2134, 1324, 1243}, {21345, 13245, 12435, 12354}};
        for (int i = 0; i < ballots.length; i++) {
            for (int place = 0; place < due[i].length; place++) {
                RankedVotes x = Votes.election(0, 3, ballots[i]);
                String call = ballots[i] + ": exchange(0, " + place + ")";
                Check.due(call, x.exchange(0, place), due[i][place]);
                Check.due(call + ", ballot(0)", x.ballot(0), due[i][place]);
                Check.due(call + ", voters(0)", x.voters(0), 3);
                Check.due(call + " and back", x.exchange(0, place), ballots[i]);
            }
            RankedVotes y = Votes.election(0, 3, ballots[i]);
            for (int place : new int[] {due[i].length, due[i].length + 1, 5, 6, 10, 32, -1, -2, Votes.LEAST,
                Votes.GREATEST, Votes.GREATEST - 1}) {
                Check.due(ballots[i] + ": exchange(0, " + place + ")", y.exchange(0, place), BAD_INDEX);
            }
            Check.due(ballots[i] + ": ballot(0) then", y.ballot(0), ballots[i]);
            Check.due(ballots[i] + ": undo() of addGroup", y.undo(), 0);
        }
    }

    private static void exchangeSeesWithdrawnOnes() {
        Check.sentence("Returns the ballot of a group (with candidates that do not stand).");
        RankedVotes x = Votes.election(31, 3, 54321);
        Check.due("ballot(0)", x.ballot(0), 54321);
        Check.due("exchange(0, 3)", x.exchange(0, 3), 54312);
        Check.due("exchange(0, 4)", x.exchange(0, 4), BAD_INDEX);
        Check.due("ballot(0)", x.ballot(0), 54312);
    }

    private static void stoodBefore() {
        Check.sentence("Returns 1 if it stood before, else 0;");
        for (int c = 0; c < 5; c++) {
            RankedVotes x = new RankedVotes();
            int without = 31 - (1 << c);
            Check.due("standing: setStanding(" + c + ", true)", x.setStanding(c, true), 1);
            Check.due("standing() after true", x.standing(), 31);
            Check.due("standing: setStanding(" + c + ", false)", x.setStanding(c, false), 1);
            Check.due("standing() after false", x.standing(), without);
            Check.due("withdrawn: setStanding(" + c + ", false)", x.setStanding(c, false), 0);
            Check.due("standing() after false again", x.standing(), without);
            Check.due("withdrawn: setStanding(" + c + ", true)", x.setStanding(c, true), 0);
            Check.due("standing() after true again", x.standing(), 31);
        }
    }

    private static void masks() {
        Check.sentence("Returns the mask, the sum of 2^c for each of them.");
        for (int withdrawn = 0; withdrawn < 32; withdrawn++) {
            Check.due("standing() without " + withdrawn, Votes.election(withdrawn).standing(), 31 - withdrawn);
        }
    }

    private static void aLongLife() {
        Check.sentence("An object is used for at most 512 calls after it has been made;");
        RankedVotes x = new RankedVotes();
        for (int call = 1; call <= 508; call += 4) {
            int voters = 1 + call / 4 % 100;
            Check.due("call " + call + ": addGroup", x.addGroup(voters, 21), 0);
            Check.due("call " + (call + 1) + ": exchange", x.exchange(0, 0), 12);
            Check.due("call " + (call + 2) + ": voters", x.voters(0), voters);
            Check.due("call " + (call + 3) + ": removeGroup", x.removeGroup(0), 0);
        }
        Check.due("call 509: undo", x.undo(), 4);
        Check.due("call 510: ballot", x.ballot(0), 12);
        Check.due("call 511: undo", x.undo(), 3);
        Check.due("call 512: ballot", x.ballot(0), 21);
    }
}
