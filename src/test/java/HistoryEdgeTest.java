import java.util.ArrayList;
import java.util.List;
import java.util.function.ToIntFunction;

/** The sentences on history and errors: promise 37, and all refused calls of all promises. */
public final class HistoryEdgeTest {
    private static final int NONE = Votes.NONE, BAD_INDEX = Votes.BAD_INDEX, BAD_VALUE = Votes.BAD_VALUE,
        BAD_STATE = Votes.BAD_STATE, FULL = Votes.FULL;

    /** A call with the answer that is due. */
    record Call(String name, ToIntFunction<RankedVotes> run, int due) {
    }

    public static void main(String[] args) {
        fiveStates();
        oldestIsDropped();
        undoOfNothing();
        undoIsNotRecorded();
        wholeStates();
        allButTheText();
        recordedMethods();
        recordedWithoutChange();
        otherMethodsAreNotRecorded();
        refusedBySome();
        refusedByNew();
        refusedByFull();
        refusedByNobody();
        firstErrorOfSeveral();
        noneOnlyWithoutError();
        constants();
        Check.finish();
    }

    private static void fiveStates() {
        Check.sentence("A history of at most 5 states is kept.");
        for (int calls = 0; calls <= 12; calls++) {
            RankedVotes x = new RankedVotes();
            for (int g = 0; g < calls; g++) {
                x.addGroup(g + 1, 1);
            }
            int states = Math.min(calls, 5);
            for (int left = states - 1; left >= 0; left--) {
                Check.due(calls + " calls: undo()", x.undo(), left);
                Check.due(calls + " calls: groupCount() then", x.groupCount(), calls - states + left);
            }
            Check.due(calls + " calls: undo() of no state", x.undo(), BAD_STATE);
            Check.due(calls + " calls: groupCount() at last", x.groupCount(), calls - states);
        }
    }

    private static void oldestIsDropped() {
        Check.sentence("when one more is recorded, the oldest one is dropped. undo() removes and restores the latest one.");
        RankedVotes x = Votes.election(0, 1, 1);
        for (int voters = 2; voters <= 90; voters++) {
            x.setVoters(0, voters);
        }
        for (int back = 1; back <= 3; back++) {
            Check.due("undo()", x.undo(), 5 - back);
            Check.due("voters(0)", x.voters(0), 90 - back);
        }
        // two states are left: four more make six, of which the first one is dropped
        for (int voters = 11; voters <= 14; voters++) {
            x.setVoters(0, voters);
        }
        int[] due = {13, 12, 11, 87, 86};
        for (int back = 0; back < 5; back++) {
            Check.due("undo()", x.undo(), 4 - back);
            Check.due("voters(0)", x.voters(0), due[back]);
        }
        Check.due("undo() of no state", x.undo(), BAD_STATE);
        Check.due("voters(0)", x.voters(0), 86);
    }

    private static void undoOfNothing() {
        Check.sentence("Returns the number of states that are left in it; BAD_STATE if it is empty.");
        RankedVotes x = new RankedVotes();
        Check.due("new: undo()", x.undo(), BAD_STATE);
        Check.due("new: undo() again", x.undo(), BAD_STATE);
        x.addGroup(5, 1);
        Check.due("undo() of one", x.undo(), 0);
        Check.due("undo() of none", x.undo(), BAD_STATE);
        Check.due("the state then", Votes.state(x), "31, 0 groups:");
        x.addGroup(6, 2);
        Check.due("undo() of a new one", x.undo(), 0);
    }

    private static void undoIsNotRecorded() {
        Check.sentence("Removes and restores the latest state of the history.");
        RankedVotes x = Votes.election(0, 1, 1, 2, 2, 3, 3);
        Check.due("undo()", x.undo(), 2);
        Check.due("undo()", x.undo(), 1);
        Check.due("the state then", Votes.state(x), "31, 1 groups: 1x1");
        Check.due("addGroup(4, 4)", x.addGroup(4, 4), 1);
        Check.due("undo()", x.undo(), 1);
        Check.due("the state then", Votes.state(x), "31, 1 groups: 1x1");
        Check.due("undo()", x.undo(), 0);
        Check.due("the state then", Votes.state(x), "31, 0 groups:");
    }

    private static void wholeStates() {
        Check.sentence("record the whole state (all but the text) before each call that returns no error");
        // who stands, the numbers of voters and the ballots come back together, with all 20 groups
        RankedVotes x = new RankedVotes();
        for (int g = 0; g < 20; g++) {
            x.addGroup(g + 1, 12 + g % 4);
        }
        String full = Votes.state(x);
        x.setStanding(4, false);
        String withdrawn = Votes.state(x);
        x.removeGroup(0);
        String removed = Votes.state(x);
        x.setVoters(18, 100);
        String changed = Votes.state(x);
        x.exchange(18, 0);
        String exchanged = Votes.state(x);
        x.setStanding(4, true);
        String[] due = {exchanged, changed, removed, withdrawn, full};
        for (int back = 0; back < 5; back++) {
            Check.due("undo()", x.undo(), 4 - back);
            Check.due("the state then", Votes.state(x), due[back]);
        }
        // of 20 groups the last one too
        for (int g = 0; g < 20; g++) {
            RankedVotes all = new RankedVotes();
            for (int i = 0; i < 20; i++) {
                all.addGroup(i + 1, 12);
            }
            String before = Votes.state(all);
            all.setVoters(g, 100);
            all.exchange(g, 0);
            all.undo();
            Check.due("undo() of both", all.undo(), 3);
            Check.due("group " + g + " of 20 then", Votes.state(all), before);
            all.removeGroup(g);
            all.undo();
            Check.due("20 groups without " + g + ", undone", Votes.state(all), before);
        }
        // what was restored and changed then is not what was recorded
        RankedVotes y = Votes.election(0, 5, 12);
        y.setVoters(0, 6);
        y.undo();
        y.setVoters(0, 7);
        y.setVoters(0, 8);
        Check.due("undo()", y.undo(), 2);
        Check.due("voters(0)", y.voters(0), 7);
        Check.due("undo()", y.undo(), 1);
        Check.due("voters(0)", y.voters(0), 5);
    }

    private static void allButTheText() {
        Check.sentence("(all but the text)");
        RankedVotes x = new RankedVotes();
        Votes.write(x, "5:0");
        x.addGroup(1, 1);
        Votes.type(x, ">1");
        Check.due("undo()", x.undo(), 0);
        Check.due("load()", x.load(), 1);
        Check.due("ballot(0)", x.ballot(0), 12);
        x.clearText();
        Check.due("undo()", x.undo(), 0);
        Check.due("clearText() after undo()", x.clearText(), 0);
    }

    private static void dueRecorded(Call call) {
        RankedVotes x = Votes.election(4, 7, 321, 8, 45);
        Votes.write(x, "9:0>4;1:1");
        String before = Votes.state(x);
        Check.due(call.name(), call.run().applyAsInt(x), call.due());
        Check.due(call.name() + ", then undo()", x.undo(), 3);
        Check.due(call.name() + " undone", Votes.state(x), before);
        Check.due(call.name() + ", then undo() of addGroup(8, 45)", x.undo(), 2);
        Check.due("the state then", Votes.state(x), "27, 1 groups: 7x321");
    }

    private static void recordedMethods() {
        Check.sentence("The methods that are said to be recorded record the whole state (all but the text) before each call "
            + "that returns no error");
        dueRecorded(new Call("addGroup(3, 1)", x -> x.addGroup(3, 1), 2));
        dueRecorded(new Call("removeGroup(0)", x -> x.removeGroup(0), 1));
        dueRecorded(new Call("setVoters(1, 50)", x -> x.setVoters(1, 50), 8));
        dueRecorded(new Call("exchange(0, 1)", x -> x.exchange(0, 1), 312));
        dueRecorded(new Call("setStanding(3, false)", x -> x.setStanding(3, false), 1));
        dueRecorded(new Call("setStanding(2, true)", x -> x.setStanding(2, true), 0));
        dueRecorded(new Call("load()", x -> x.load(), 4));
    }

    private static void recordedWithoutChange() {
        Check.sentence("even if it changes nothing;");
        dueRecorded(new Call("setVoters(1, 8)", x -> x.setVoters(1, 8), 8));
        dueRecorded(new Call("setStanding(3, true)", x -> x.setStanding(3, true), 1));
        dueRecorded(new Call("setStanding(2, false)", x -> x.setStanding(2, false), 0));
        // so that such calls drop older states, too
        RankedVotes x = Votes.election(0, 7, 321);
        for (int i = 0; i < 5; i++) {
            x.setVoters(0, 7);
        }
        for (int left = 4; left >= 0; left--) {
            Check.due("undo() of nothing changed", x.undo(), left);
            Check.due("groupCount() then", x.groupCount(), 1);
        }
        Check.due("undo() of no state", x.undo(), BAD_STATE);
    }

    /** All calls that only look, on an election with groups 0 to 2; what they answer is tested elsewhere. */
    private static List<ToIntFunction<RankedVotes>> looks() {
        List<ToIntFunction<RankedVotes>> looks = new ArrayList<>(List.of(x -> x.standing(), x -> x.groupCount(),
            x -> x.voters(2), x -> x.ballot(1), x -> x.allVoters(), x -> x.pair(0, 1), x -> x.beatsAll(),
            x -> x.losesToAll(), x -> x.smith(), x -> x.strength(0, 2), x -> x.isLocked(1, 0), x -> x.kemenyValue()));
        looks.addAll(List.of(x -> x.kemeny(1), x -> x.favourite(), x -> x.textFault()));
        for (int i = 0; i < Votes.RULES; i++) {
            int rule = i;
            looks.addAll(List.of(x -> x.winners(rule), x -> x.winner(rule), x -> x.points(rule, 1), x -> x.rounds(rule),
                x -> x.leaves(rule, 0), x -> x.tally(rule, 0, 2)));
            looks.addAll(List.of(x -> x.strategy(rule, 1), x -> x.strategyAt(rule, 1, 0), x -> x.strategists(rule),
                x -> x.absentees(rule), x -> x.raisers(rule), x -> x.spoilers(rule), x -> x.split(rule),
                x -> x.removals(rule), x -> x.sample(rule, 5, 9), x -> x.agreeing(rule, 5, 9, 4)));
        }
        return looks;
    }

    private static RankedVotes some() {
        RankedVotes x = Votes.election(8, 39, 123, 35, 2341, 26, 3125);
        Votes.write(x, "7:0; x");
        return x;
    }

    private static void otherMethodsAreNotRecorded() {
        Check.sentence("The methods that are said to be recorded record the whole state");
        List<ToIntFunction<RankedVotes>> looks = looks();
        RankedVotes x = some();
        int[] first = new int[looks.size()];
        for (int i = 0; i < looks.size(); i++) {
            first[i] = looks.get(i).applyAsInt(x);
        }
        // the same calls backwards answer the same: none of them leaves anything behind
        for (int i = looks.size() - 1; i >= 0; i--) {
            Check.due("look " + i + " again", looks.get(i).applyAsInt(x), first[i]);
        }
        Check.due("everything after looks", Votes.everything(x), Votes.everything(some()));
        RankedVotes y = some();
        y.type('1');
        y.clearText();
        Check.due("type() and clearText(): undo()", y.undo(), 3);
        Check.due("the state then", Votes.state(y), "23, 2 groups: 39x123 35x2341");
    }

    private static void dueRefused(String name, ToIntFunction<RankedVotes> make, List<Call> calls) {
        for (Call call : calls) {
            RankedVotes x = new RankedVotes();
            RankedVotes y = new RankedVotes();
            make.applyAsInt(x);
            make.applyAsInt(y);
            Check.due(name + ": " + call.name(), call.run().applyAsInt(x), call.due());
            Check.due(name + ": " + call.name() + " changed something", Votes.everything(x), Votes.everything(y));
        }
    }

    private static int makeSome(RankedVotes x) {
        x.setStanding(3, false);
        x.addGroup(5, 123);
        x.addGroup(4, 3124);
        x.addGroup(1, 5);
        Votes.write(x, "7:0; 0:1");
        return 0;
    }

    private static void refusedBySome() {
        Check.sentence("A call that returns an error changes nothing.");
        dueRefused("some", HistoryEdgeTest::makeSome, List.of(
            new Call("addGroup(0, 12)", x -> x.addGroup(0, 12), BAD_VALUE),
            new Call("addGroup(101, 12)", x -> x.addGroup(101, 12), BAD_VALUE),
            new Call("addGroup(1, 0)", x -> x.addGroup(1, 0), BAD_VALUE),
            new Call("addGroup(1, 6)", x -> x.addGroup(1, 6), BAD_VALUE),
            new Call("addGroup(1, 121)", x -> x.addGroup(1, 121), BAD_VALUE),
            new Call("removeGroup(3)", x -> x.removeGroup(3), BAD_INDEX),
            new Call("removeGroup(-1)", x -> x.removeGroup(-1), BAD_INDEX),
            new Call("setVoters(3, 5)", x -> x.setVoters(3, 5), BAD_INDEX),
            new Call("setVoters(-1, 5)", x -> x.setVoters(-1, 5), BAD_INDEX),
            new Call("setVoters(0, 0)", x -> x.setVoters(0, 0), BAD_VALUE),
            new Call("setVoters(2, 101)", x -> x.setVoters(2, 101), BAD_VALUE),
            new Call("exchange(3, 0)", x -> x.exchange(3, 0), BAD_INDEX),
            new Call("exchange(-1, 0)", x -> x.exchange(-1, 0), BAD_INDEX),
            new Call("exchange(0, 2)", x -> x.exchange(0, 2), BAD_INDEX),
            new Call("exchange(0, -1)", x -> x.exchange(0, -1), BAD_INDEX),
            new Call("exchange(2, 0)", x -> x.exchange(2, 0), BAD_INDEX),
            new Call("setStanding(5, true)", x -> x.setStanding(5, true), BAD_INDEX),
            new Call("setStanding(5, false)", x -> x.setStanding(5, false), BAD_INDEX),
            new Call("setStanding(-1, false)", x -> x.setStanding(-1, false), BAD_INDEX)));
        dueRefused("some", HistoryEdgeTest::makeSome, List.of(
            new Call("load() with a fault", x -> x.load(), BAD_STATE),
            new Call("type(-1)", x -> x.type(-1), BAD_VALUE),
            new Call("type(256)", x -> x.type(256), BAD_VALUE),
            new Call("voters(3)", x -> x.voters(3), BAD_INDEX),
            new Call("ballot(3)", x -> x.ballot(3), BAD_INDEX),
            new Call("pair(5, 0)", x -> x.pair(5, 0), BAD_INDEX),
            new Call("pair(3, 0)", x -> x.pair(3, 0), BAD_STATE),
            new Call("winners(12)", x -> x.winners(12), BAD_INDEX),
            new Call("winner(-1)", x -> x.winner(-1), BAD_INDEX),
            new Call("points(4, 0)", x -> x.points(4, 0), BAD_STATE),
            new Call("points(0, 3)", x -> x.points(0, 3), BAD_STATE),
            new Call("strength(0, 0)", x -> x.strength(0, 0), BAD_STATE),
            new Call("isLocked(0, 3)", x -> x.isLocked(0, 3), BAD_STATE),
            new Call("rounds(5)", x -> x.rounds(5), BAD_STATE),
            new Call("leaves(6, 3)", x -> x.leaves(6, 3), BAD_INDEX),
            new Call("tally(6, 3, 0)", x -> x.tally(6, 3, 0), BAD_INDEX),
            new Call("kemeny(4)", x -> x.kemeny(4), BAD_INDEX)));
        dueRefused("some", HistoryEdgeTest::makeSome, List.of(
            new Call("strategy(0, 3)", x -> x.strategy(0, 3), BAD_INDEX),
            new Call("strategyAt(0, 0, 4)", x -> x.strategyAt(0, 0, 4), BAD_INDEX),
            new Call("strategists(12)", x -> x.strategists(12), BAD_INDEX),
            new Call("absentees(12)", x -> x.absentees(12), BAD_INDEX),
            new Call("raisers(12)", x -> x.raisers(12), BAD_INDEX),
            new Call("spoilers(12)", x -> x.spoilers(12), BAD_INDEX),
            new Call("split(12)", x -> x.split(12), BAD_INDEX),
            new Call("removals(12)", x -> x.removals(12), BAD_INDEX),
            new Call("sample(0, 1, 51)", x -> x.sample(0, 1, 51), BAD_VALUE),
            new Call("agreeing(0, 1, 1, 21)", x -> x.agreeing(0, 1, 1, 21), BAD_VALUE)));
    }

    private static void refusedByNew() {
        Check.sentence("A call that returns an error changes nothing.");
        dueRefused("new", x -> 0, List.of(
            new Call("undo()", x -> x.undo(), BAD_STATE),
            new Call("load()", x -> x.load(), BAD_STATE),
            new Call("removeGroup(0)", x -> x.removeGroup(0), BAD_INDEX),
            new Call("setVoters(0, 1)", x -> x.setVoters(0, 1), BAD_INDEX),
            new Call("exchange(0, 0)", x -> x.exchange(0, 0), BAD_INDEX),
            new Call("voters(0)", x -> x.voters(0), BAD_INDEX),
            new Call("ballot(0)", x -> x.ballot(0), BAD_INDEX),
            new Call("strategy(0, 0)", x -> x.strategy(0, 0), BAD_INDEX),
            new Call("strategyAt(0, 0, 0)", x -> x.strategyAt(0, 0, 0), BAD_INDEX),
            new Call("sample(0, 1, 1)", x -> x.sample(0, 1, 1), BAD_STATE),
            new Call("agreeing(0, 1, 1, 1)", x -> x.agreeing(0, 1, 1, 1), BAD_STATE)));
    }

    /** 20 groups, 100 bytes and 5 states, which nothing more can be added to. */
    private static int makeFull(RankedVotes x) {
        for (int g = 0; g < 20; g++) {
            x.addGroup(g + 1, 1 + g % 5);
        }
        Votes.write(x, "5:0" + " ".repeat(97));
        return 0;
    }

    private static void refusedByFull() {
        Check.sentence("FULL (-1000004): there is no room.");
        dueRefused("full", HistoryEdgeTest::makeFull, List.of(
            new Call("addGroup(1, 1)", x -> x.addGroup(1, 1), FULL),
            new Call("addGroup(100, 54321)", x -> x.addGroup(100, 54321), FULL),
            new Call("addGroup(0, 1)", x -> x.addGroup(0, 1), BAD_VALUE),
            new Call("addGroup(101, 1)", x -> x.addGroup(101, 1), BAD_VALUE),
            new Call("addGroup(1, 16)", x -> x.addGroup(1, 16), BAD_VALUE),
            new Call("load() without room", x -> x.load(), BAD_STATE),
            new Call("removeGroup(20)", x -> x.removeGroup(20), BAD_INDEX),
            new Call("setVoters(20, 1)", x -> x.setVoters(20, 1), BAD_INDEX),
            new Call("exchange(20, 0)", x -> x.exchange(20, 0), BAD_INDEX),
            new Call("exchange(19, 0)", x -> x.exchange(19, 0), BAD_INDEX),
            new Call("type(48)", x -> x.type('0'), FULL),
            new Call("type(0)", x -> x.type(0), FULL),
            new Call("type(255)", x -> x.type(255), FULL),
            new Call("type(256)", x -> x.type(256), BAD_VALUE)));
    }

    private static int makeNobody(RankedVotes x) {
        x.addGroup(5, 12345);
        Votes.withdraw(x, 31);
        return 0;
    }

    private static void refusedByNobody() {
        Check.sentence("BAD_STATE (-1000003): the call is not possible, as told;");
        dueRefused("nobody stands", HistoryEdgeTest::makeNobody, List.of(
            new Call("pair(0, 0)", x -> x.pair(0, 0), BAD_STATE),
            new Call("points(0, 0)", x -> x.points(0, 0), BAD_STATE),
            new Call("strength(0, 1)", x -> x.strength(0, 1), BAD_STATE),
            new Call("isLocked(0, 0)", x -> x.isLocked(0, 0), BAD_STATE),
            new Call("leaves(6, 0)", x -> x.leaves(6, 0), BAD_INDEX),
            new Call("tally(7, 0, 0)", x -> x.tally(7, 0, 0), BAD_INDEX),
            new Call("kemeny(0)", x -> x.kemeny(0), BAD_INDEX),
            new Call("strategyAt(0, 0, 0)", x -> x.strategyAt(0, 0, 0), BAD_INDEX),
            new Call("agreeing(0, 1, 1, 1)", x -> x.agreeing(0, 1, 1, 1), BAD_STATE)));
    }

    private static void dueAll(ToIntFunction<RankedVotes> make, List<Call> calls) {
        RankedVotes x = new RankedVotes();
        make.applyAsInt(x);
        for (Call call : calls) {
            Check.due(call.name(), call.run().applyAsInt(x), call.due());
        }
    }

    private static void firstErrorOfSeveral() {
        Check.sentence("If several apply to a call, the first one in this order is returned;");
        // no index comes before a wrong value, a state and no room; 3 does not stand
        dueAll(HistoryEdgeTest::makeSome, List.of(
            new Call("setVoters(3, 0)", x -> x.setVoters(3, 0), BAD_INDEX),
            new Call("setVoters(-1, 101)", x -> x.setVoters(-1, 101), BAD_INDEX),
            new Call("pair(3, 5)", x -> x.pair(3, 5), BAD_INDEX),
            new Call("pair(-1, 3)", x -> x.pair(-1, 3), BAD_INDEX),
            new Call("points(12, 3)", x -> x.points(12, 3), BAD_INDEX),
            new Call("points(4, 5)", x -> x.points(4, 5), BAD_INDEX),
            new Call("points(11, -1)", x -> x.points(11, -1), BAD_INDEX),
            new Call("points(4, 3)", x -> x.points(4, 3), BAD_STATE),
            new Call("strength(5, 5)", x -> x.strength(5, 5), BAD_INDEX),
            new Call("strength(3, -1)", x -> x.strength(3, -1), BAD_INDEX),
            new Call("strength(5, 3)", x -> x.strength(5, 3), BAD_INDEX),
            new Call("strength(3, 3)", x -> x.strength(3, 3), BAD_STATE),
            new Call("isLocked(3, 5)", x -> x.isLocked(3, 5), BAD_INDEX),
            new Call("isLocked(-1, 3)", x -> x.isLocked(-1, 3), BAD_INDEX),
            new Call("isLocked(3, 3)", x -> x.isLocked(3, 3), BAD_STATE)));
        // there is no round by other rules, so that a round is wrong by 6 and 7 only
        dueAll(HistoryEdgeTest::makeSome, List.of(
            new Call("rounds(12)", x -> x.rounds(12), BAD_INDEX),
            new Call("leaves(12, -1)", x -> x.leaves(12, -1), BAD_INDEX),
            new Call("leaves(5, -1)", x -> x.leaves(5, -1), BAD_STATE),
            new Call("leaves(8, 4)", x -> x.leaves(8, 4), BAD_STATE),
            new Call("leaves(6, -1)", x -> x.leaves(6, -1), BAD_INDEX),
            new Call("tally(5, -1, 0)", x -> x.tally(5, -1, 0), BAD_STATE),
            new Call("tally(5, 0, 5)", x -> x.tally(5, 0, 5), BAD_INDEX),
            new Call("tally(8, 9, -1)", x -> x.tally(8, 9, -1), BAD_INDEX),
            new Call("tally(12, 0, 0)", x -> x.tally(12, 0, 0), BAD_INDEX),
            new Call("tally(8, 0, 3)", x -> x.tally(8, 0, 3), BAD_STATE)));
        dueAll(HistoryEdgeTest::makeFull, List.of(
            new Call("full: addGroup(0, 1)", x -> x.addGroup(0, 1), BAD_VALUE),
            new Call("full: addGroup(1, 0)", x -> x.addGroup(1, 0), BAD_VALUE),
            new Call("full: type(256)", x -> x.type(256), BAD_VALUE),
            new Call("full: type(-1)", x -> x.type(-1), BAD_VALUE)));
        dueAll(x -> 0, List.of(
            new Call("no groups: sample(12, 1, 0)", x -> x.sample(12, 1, 0), BAD_INDEX),
            new Call("no groups: sample(0, 1, 0)", x -> x.sample(0, 1, 0), BAD_VALUE),
            new Call("no groups: agreeing(12, 1, 0, 0)", x -> x.agreeing(12, 1, 0, 0), BAD_INDEX),
            new Call("no groups: agreeing(0, 1, 51, 1)", x -> x.agreeing(0, 1, 51, 1), BAD_VALUE),
            new Call("no groups: agreeing(0, 1, 1, 21)", x -> x.agreeing(0, 1, 1, 21), BAD_VALUE)));
    }

    private static void noneOnlyWithoutError() {
        Check.sentence("NONE is returned only if no error applies.");
        dueAll(HistoryEdgeTest::makeSome, List.of(
            new Call("tally(6, 0, 3)", x -> x.tally(6, 0, 3), NONE),
            new Call("tally(6, 3, 3)", x -> x.tally(6, 3, 3), BAD_INDEX),
            new Call("tally(6, -1, 3)", x -> x.tally(6, -1, 3), BAD_INDEX),
            new Call("tally(5, 0, 3)", x -> x.tally(5, 0, 3), BAD_STATE),
            new Call("strategy(0, 0)", x -> x.strategy(0, 0), NONE),
            new Call("strategy(12, 0)", x -> x.strategy(12, 0), BAD_INDEX),
            new Call("strategy(0, 3)", x -> x.strategy(0, 3), BAD_INDEX),
            new Call("strategyAt(0, 0, 3)", x -> x.strategyAt(0, 0, 3), NONE),
            new Call("strategyAt(0, 0, 4)", x -> x.strategyAt(0, 0, 4), BAD_INDEX),
            new Call("strategyAt(0, 0, -1)", x -> x.strategyAt(0, 0, -1), BAD_INDEX),
            new Call("strategyAt(0, 3, 0)", x -> x.strategyAt(0, 3, 0), BAD_INDEX),
            new Call("strategyAt(12, 0, 0)", x -> x.strategyAt(12, 0, 0), BAD_INDEX)));
        dueAll(HistoryEdgeTest::makeNobody, List.of(
            new Call("nobody: winner(0)", x -> x.winner(0), NONE),
            new Call("nobody: winner(12)", x -> x.winner(12), BAD_INDEX),
            new Call("nobody: sample(0, 1, 1)", x -> x.sample(0, 1, 1), NONE),
            new Call("nobody: sample(0, 1, 0)", x -> x.sample(0, 1, 0), BAD_VALUE),
            new Call("nobody: sample(12, 1, 1)", x -> x.sample(12, 1, 1), BAD_INDEX),
            new Call("nobody: split(12)", x -> x.split(12), BAD_INDEX),
            new Call("nobody: split(0)", x -> x.split(0), NONE),
            new Call("nobody: removals(12)", x -> x.removals(12), BAD_INDEX),
            new Call("nobody: removals(0)", x -> x.removals(0), NONE),
            new Call("nobody: strategyAt(0, 0, 0)", x -> x.strategyAt(0, 0, 0), BAD_INDEX),
            new Call("nobody: removeGroup(0)", x -> x.removeGroup(0), 0),
            new Call("nobody, no groups: sample(0, 1, 1)", x -> x.sample(0, 1, 1), BAD_STATE)));
    }

    private static void constants() {
        Check.sentence("NONE (-1000000) stands for \"there is none\".");
        Check.due("NONE", RankedVotes.NONE, -1000000);
        Check.due("BAD_INDEX", RankedVotes.BAD_INDEX, -1000001);
        Check.due("BAD_VALUE", RankedVotes.BAD_VALUE, -1000002);
        Check.due("BAD_STATE", RankedVotes.BAD_STATE, -1000003);
        Check.due("FULL", RankedVotes.FULL, -1000004);
    }
}
