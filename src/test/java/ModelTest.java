import java.util.ArrayList;
import java.util.List;

/**
 * Long runs of calls, some sensible and some not, on the class and on the plain model. By hand other
 * runs can be asked for: the number of the first one, and how many.
 */
public final class ModelTest {
    private static final int RUNS = 96;
    private static final int CALLS = 512;
    private static final int METHODS = 40;

    private static long seed;

    /** Calls that one step made beside its first one; an object is used for 512 calls. */
    private static int further;

    private static int below(int bound) {
        seed = seed * 6364136223846793005L + 1442695040888963407L;
        return (int) ((seed >>> 33) % bound);
    }

    private static final int[] ODD = {Integer.MIN_VALUE, Integer.MIN_VALUE + 1, -1000000, -2, -1, 5, 6, 12, 13, 20,
        21, 31, 32, 100, 101, 256, 1 << 16, 123456, 1234567890, Integer.MAX_VALUE - 1, Integer.MAX_VALUE};

    /** A number below a bound, seldom one that is no number of the kind at all. */
    private static int number(int bound) {
        return below(24) == 0 ? ODD[below(ODD.length)] : below(bound);
    }

    private static int size(int most) {
        return below(20) == 0 ? (below(2) == 0 ? 0 : most + 1) : number(most) + 1;
    }

    private static int ballot(int style) {
        if (below(20) == 0) {
            return below(3) == 0 ? ODD[below(ODD.length)] : below(70000);
        }
        List<Integer> left = new ArrayList<>(List.of(1, 2, 3, 4, 5));
        int length = style == 0 ? 5 : 1 + below(5);
        int digits = 0;
        for (int i = 0; i < length; i++) {
            digits = digits * 10 + left.remove(below(left.size()));
        }
        return digits;
    }

    private static int voters(int style) {
        return style == 1 ? size(100) : size(style == 2 ? 3 : 12);
    }

    private static void typeText(RankedVotes x, Model m, int run) {
        StringBuilder text = new StringBuilder();
        int many = 1 + below(below(3) == 0 ? 22 : 4);
        for (int g = 0; g < many; g++) {
            text.append(g == 0 ? "" : ";").append(below(30) == 0 ? below(1200) : 1 + below(9)).append(':');
            int length = 1 + below(many > 5 ? 1 : 3);
            for (int i = 0; i < length; i++) {
                text.append(i == 0 ? "" : ">").append((below(40) == 0 ? 5 : 0) + (i * 2 + g) % 5);
            }
        }
        if (below(4) == 0) {
            text.insert(below(text.length() + 1), "    x;:>0159".charAt(below(12)));
        }
        if (below(6) == 0) {
            text.deleteCharAt(below(text.length()));
        }
        further += text.length() - 1;
        for (int i = 0; i < text.length(); i++) {
            int code = below(400) == 0 ? below(300) - 20 : text.charAt(i);
            Check.due("run " + run + ": type(" + code + ")", x.type(code), m.type(code));
        }
    }

    private static void call(RankedVotes x, Model m, int run, int call, int style) {
        String at = "run " + run + ", call " + call + ": ";
        int rule = number(12);
        int c = number(5);
        int d = number(5);
        int g = number(Math.max(1, m.groupCount()));
        int size = size(50);
        int seedOfSample = below(2) == 0 ? below(1000) : (int) (seed >>> 20);
        switch (call) {
            case 0, 1, 2 -> {
                int voters = voters(style);
                int ballot = ballot(style);
                Check.due(at + "addGroup(" + voters + ", " + ballot + ")", x.addGroup(voters, ballot),
                    m.addGroup(voters, ballot));
            }
            case 3 -> Check.due(at + "removeGroup(" + g + ")", x.removeGroup(g), m.removeGroup(g));
            case 4 -> {
                int voters = voters(style);
                Check.due(at + "setVoters(" + g + ", " + voters + ")", x.setVoters(g, voters),
                    m.setVoters(g, voters));
            }
            case 5 -> Check.due(at + "exchange(" + g + ", " + d + ")", x.exchange(g, d), m.exchange(g, d));
            case 6 -> {
                boolean stands = below(style == 3 ? 2 : 5) != 0;
                Check.due(at + "setStanding(" + c + ", " + stands + ")", x.setStanding(c, stands),
                    m.setStanding(c, stands));
            }
            case 7 -> Check.due(at + "standing()", x.standing(), m.standing());
            case 8 -> Check.due(at + "groupCount()", x.groupCount(), m.groupCount());
            case 9 -> Check.due(at + "voters(" + g + ")", x.voters(g), m.voters(g));
            case 10 -> Check.due(at + "ballot(" + g + ")", x.ballot(g), m.ballot(g));
            case 11 -> Check.due(at + "allVoters()", x.allVoters(), m.allVoters());
            case 12 -> Check.due(at + "pair(" + c + ", " + d + ")", x.pair(c, d), m.pair(c, d));
            case 13 -> Check.due(at + "winners(" + rule + ")", x.winners(rule), m.winners(rule));
            case 14 -> Check.due(at + "winner(" + rule + ")", x.winner(rule), m.winner(rule));
            case 15 -> {
                int pointed = below(2) == 0 ? rule : new int[] {0, 1, 2, 3, 8}[below(5)];
                Check.due(at + "points(" + pointed + ", " + c + ")", x.points(pointed, c), m.points(pointed, c));
            }
            case 16 -> Check.due(at + "beatsAll()", x.beatsAll(), m.beatsAll());
            case 17 -> Check.due(at + "losesToAll()", x.losesToAll(), m.losesToAll());
            case 18 -> Check.due(at + "smith()", x.smith(), m.smith());
            case 19 -> Check.due(at + "strength(" + c + ", " + d + ")", x.strength(c, d), m.strength(c, d));
            case 20 -> Check.due(at + "isLocked(" + c + ", " + d + ")", x.isLocked(c, d), m.isLocked(c, d));
            case 21 -> roundCalls(x, m, at, below(4) == 0 ? rule : 6 + below(2), number(4), c);
            case 22 -> Check.due(at + "kemenyValue()", x.kemenyValue(), m.kemenyValue());
            case 23 -> Check.due(at + "kemeny(" + d + ")", x.kemeny(d), m.kemeny(d));
            case 24 -> Check.due(at + "favourite()", x.favourite(), m.favourite());
            case 25 -> Check.due(at + "strategy(" + rule + ", " + g + ")", x.strategy(rule, g), m.strategy(rule, g));
            case 26 -> Check.due(at + "strategyAt(" + rule + ", " + g + ", " + d + ")", x.strategyAt(rule, g, d),
                m.strategyAt(rule, g, d));
            case 27 -> {
                if (below(6) == 0) {
                    Check.due(at + "strategists(" + rule + ")", x.strategists(rule), m.strategists(rule));
                }
            }
            case 28 -> Check.due(at + "absentees(" + rule + ")", x.absentees(rule), m.absentees(rule));
            case 29 -> Check.due(at + "raisers(" + rule + ")", x.raisers(rule), m.raisers(rule));
            case 30 -> Check.due(at + "spoilers(" + rule + ")", x.spoilers(rule), m.spoilers(rule));
            case 31 -> Check.due(at + "split(" + rule + ")", x.split(rule), m.split(rule));
            case 32 -> {
                if (below(style == 1 ? 16 : 2) == 0) {
                    Check.due(at + "removals(" + rule + ")", x.removals(rule), m.removals(rule));
                }
            }
            case 33 -> Check.due(at + "sample(" + rule + ", " + seedOfSample + ", " + size + ")",
                x.sample(rule, seedOfSample, size), m.sample(rule, seedOfSample, size));
            case 34 -> {
                int many = size(20);
                Check.due(at + "agreeing(" + rule + ", " + seedOfSample + ", " + size + ", " + many + ")",
                    x.agreeing(rule, seedOfSample, size, many), m.agreeing(rule, seedOfSample, size, many));
            }
            case 35 -> Check.due(at + "undo()", x.undo(), m.undo());
            case 36 -> typeText(x, m, run);
            case 37 -> Check.due(at + "clearText()", x.clearText(), m.clearText());
            case 38 -> Check.due(at + "textFault()", x.textFault(), m.textFault());
            default -> Check.due(at + "load()", x.load(), m.load());
        }
    }

    private static void roundCalls(RankedVotes x, Model m, String at, int rule, int round, int c) {
        further += 2;
        Check.due(at + "rounds(" + rule + ")", x.rounds(rule), m.rounds(rule));
        Check.due(at + "leaves(" + rule + ", " + round + ")", x.leaves(rule, round), m.leaves(rule, round));
        Check.due(at + "tally(" + rule + ", " + round + ", " + c + ")", x.tally(rule, round, c),
            m.tally(rule, round, c));
    }

    public static void main(String[] args) {
        int start = args.length > 0 ? Integer.parseInt(args[0]) : 0;
        int runs = args.length > 1 ? Integer.parseInt(args[1]) : RUNS;
        for (int run = start; run < start + runs; run++) {
            seed = run * 7919L + 17;
            RankedVotes x = new RankedVotes();
            Model m = new Model();
            further = 0;
            // a step makes at most so many calls as a text of 22 groups has bytes
            for (int i = 0; i + further < CALLS - 150; i++) {
                call(x, m, run, below(METHODS), run % 4);
            }
        }
        Check.finish();
    }
}
