import java.util.ArrayDeque;
import java.util.ArrayList;
import java.util.Collections;
import java.util.Deque;
import java.util.List;

/**
 * A second RankedVotes, written from the document's words and as plainly as possible: ballots are
 * lists, orders are all tried, paths are all walked. ModelTest compares the class with it.
 */
final class Model {
    static final int NONE = -1000000, BAD_INDEX = -1000001, BAD_VALUE = -1000002, BAD_STATE = -1000003,
        FULL = -1000004;

    /** A group of voters; it is never changed, only replaced. */
    record Group(int voters, List<Integer> ballot) {
        List<Integer> seen(List<Integer> set) {
            List<Integer> seen = new ArrayList<>();
            for (int c : ballot) {
                if (set.contains(c)) {
                    seen.add(c);
                }
            }
            return seen;
        }

        boolean ranksAbove(int a, int b) {
            return ballot.contains(a) && (!ballot.contains(b) || ballot.indexOf(b) > ballot.indexOf(a));
        }
    }

    record State(List<Integer> standing, List<Group> groups) {
    }

    private List<Integer> standing = new ArrayList<>(List.of(0, 1, 2, 3, 4));
    private List<Group> groups = new ArrayList<>();
    private final Deque<State> history = new ArrayDeque<>();
    private final List<Integer> text = new ArrayList<>();

    // ---- groups and candidates

    int addGroup(int voters, int ballot) {
        List<Integer> read = ballotOf(ballot);
        if (voters < 1 || voters > 100 || read == null) {
            return BAD_VALUE;
        }
        if (groups.size() == 20) {
            return FULL;
        }
        remember();
        groups.add(new Group(voters, read));
        return groups.size() - 1;
    }

    int removeGroup(int group) {
        if (!isGroup(group)) {
            return BAD_INDEX;
        }
        remember();
        groups.remove(group);
        return groups.size();
    }

    int setVoters(int group, int voters) {
        if (!isGroup(group)) {
            return BAD_INDEX;
        }
        if (voters < 1 || voters > 100) {
            return BAD_VALUE;
        }
        remember();
        Group old = groups.set(group, new Group(voters, groups.get(group).ballot()));
        return old.voters();
    }

    int exchange(int group, int place) {
        if (!isGroup(group)) {
            return BAD_INDEX;
        }
        Group old = groups.get(group);
        int length = old.ballot().size();
        if (place < 0 || place >= length || place + 1 >= length) {
            return BAD_INDEX;
        }
        remember();
        List<Integer> changed = new ArrayList<>(old.ballot());
        Collections.swap(changed, place, place + 1);
        groups.set(group, new Group(old.voters(), changed));
        return digits(changed);
    }

    int setStanding(int candidate, boolean stands) {
        if (!isCandidate(candidate)) {
            return BAD_INDEX;
        }
        remember();
        boolean stood = standing.contains(candidate);
        List<Integer> changed = new ArrayList<>();
        for (int c = 0; c < 5; c++) {
            if (c == candidate ? stands : standing.contains(c)) {
                changed.add(c);
            }
        }
        standing = changed;
        return stood ? 1 : 0;
    }

    int standing() {
        return mask(standing);
    }

    int groupCount() {
        return groups.size();
    }

    int voters(int group) {
        return isGroup(group) ? groups.get(group).voters() : BAD_INDEX;
    }

    int ballot(int group) {
        return isGroup(group) ? digits(groups.get(group).ballot()) : BAD_INDEX;
    }

    int allVoters() {
        return all(groups);
    }

    // ---- what is counted

    int pair(int a, int b) {
        if (!isCandidate(a) || !isCandidate(b)) {
            return BAD_INDEX;
        }
        if (!standing.contains(a) || !standing.contains(b)) {
            return BAD_STATE;
        }
        return p(groups, a, b);
    }

    int winners(int rule) {
        return isRule(rule) ? mask(winnersOf(rule, groups, standing)) : BAD_INDEX;
    }

    int winner(int rule) {
        return isRule(rule) ? first(rule, groups, standing) : BAD_INDEX;
    }

    int points(int rule, int candidate) {
        if (!isRule(rule) || !isCandidate(candidate)) {
            return BAD_INDEX;
        }
        if (!List.of(0, 1, 2, 3, 8).contains(rule) || !standing.contains(candidate)) {
            return BAD_STATE;
        }
        return pointsOf(rule, groups, standing, candidate);
    }

    int beatsAll() {
        for (int a : standing) {
            if (beatsOthers(groups, standing, a)) {
                return a;
            }
        }
        return NONE;
    }

    int losesToAll() {
        for (int a : standing) {
            boolean loses = standing.size() >= 2;
            for (int b : standing) {
                loses &= a == b || beats(groups, b, a);
            }
            if (loses) {
                return a;
            }
        }
        return NONE;
    }

    int smith() {
        for (int size = 1; size <= standing.size(); size++) {
            for (int set = 1; set < 32; set++) {
                if (Integer.bitCount(set) == size && (set & ~mask(standing)) == 0 && dominates(set)) {
                    return set;
                }
            }
        }
        return 0;
    }

    private boolean dominates(int set) {
        for (int a : standing) {
            for (int b : standing) {
                if ((set >> a & 1) == 1 && (set >> b & 1) == 0 && !beats(groups, a, b)) {
                    return false;
                }
            }
        }
        return true;
    }

    int strength(int a, int b) {
        if (!isCandidate(a) || !isCandidate(b)) {
            return BAD_INDEX;
        }
        if (!standing.contains(a) || !standing.contains(b) || a == b) {
            return BAD_STATE;
        }
        return strongestPath(groups, standing, new ArrayList<>(List.of(a)), b, Integer.MAX_VALUE);
    }

    int isLocked(int a, int b) {
        if (!isCandidate(a) || !isCandidate(b)) {
            return BAD_INDEX;
        }
        if (!standing.contains(a) || !standing.contains(b)) {
            return BAD_STATE;
        }
        return lockedPairs(groups, standing).contains(List.of(a, b)) ? 1 : 0;
    }

    int rounds(int rule) {
        if (!isRule(rule)) {
            return BAD_INDEX;
        }
        return rule == 6 || rule == 7 ? roundsOf(rule, groups, standing).size() : BAD_STATE;
    }

    int leaves(int rule, int round) {
        if (!isRule(rule)) {
            return BAD_INDEX;
        }
        if (rule != 6 && rule != 7) {
            return BAD_STATE;
        }
        List<Round> rounds = roundsOf(rule, groups, standing);
        return round >= 0 && round < rounds.size() ? rounds.get(round).leaver() : BAD_INDEX;
    }

    int tally(int rule, int round, int candidate) {
        if (!isRule(rule) || !isCandidate(candidate)) {
            return BAD_INDEX;
        }
        if (rule != 6 && rule != 7) {
            return BAD_STATE;
        }
        List<Round> rounds = roundsOf(rule, groups, standing);
        if (round < 0 || round >= rounds.size()) {
            return BAD_INDEX;
        }
        int place = rounds.get(round).set().indexOf(candidate);
        return place < 0 ? NONE : rounds.get(round).tallies().get(place);
    }

    int kemenyValue() {
        return value(groups, bestOrders(groups, standing).get(0));
    }

    int kemeny(int place) {
        List<Integer> order = bestOrders(groups, standing).get(0);
        return place >= 0 && place < order.size() ? order.get(place) : BAD_INDEX;
    }

    int favourite() {
        int best = NONE;
        int most = 0;
        for (int c : standing) {
            int count = 0;
            for (int rule = 0; rule < 12; rule++) {
                count += first(rule, groups, standing) == c ? 1 : 0;
            }
            if (count > most) {
                most = count;
                best = c;
            }
        }
        return best;
    }

    // ---- strategies and paradoxes

    int strategy(int rule, int group) {
        if (!isRule(rule) || !isGroup(group)) {
            return BAD_INDEX;
        }
        List<Integer> best = bestStrategy(rule, group);
        return best == null ? NONE : first(rule, replaced(group, groups.get(group).voters(), best), standing);
    }

    int strategyAt(int rule, int group, int place) {
        if (!isRule(rule) || !isGroup(group) || place < 0 || place >= standing.size()) {
            return BAD_INDEX;
        }
        List<Integer> best = bestStrategy(rule, group);
        return best == null ? NONE : best.get(place);
    }

    int strategists(int rule) {
        if (!isRule(rule)) {
            return BAD_INDEX;
        }
        int found = 0;
        for (int g = 0; g < groups.size(); g++) {
            found += bestStrategy(rule, g) == null ? 0 : 1 << g;
        }
        return found;
    }

    private List<Integer> bestStrategy(int rule, int group) {
        Group own = groups.get(group);
        int usual = first(rule, groups, standing);
        List<List<Integer>> orders = orders(standing);
        List<Integer> outcomes = new ArrayList<>();
        for (List<Integer> order : orders) {
            outcomes.add(first(rule, replaced(group, own.voters(), order), standing));
        }
        for (int i = 0; i < orders.size(); i++) {
            boolean best = own.ranksAbove(outcomes.get(i), usual);
            for (int other : outcomes) {
                best &= !own.ranksAbove(other, outcomes.get(i));
            }
            if (best) {
                return orders.get(i);
            }
        }
        return null;
    }

    int absentees(int rule) {
        if (!isRule(rule)) {
            return BAD_INDEX;
        }
        int usual = first(rule, groups, standing);
        int found = 0;
        for (int g = 0; g < groups.size(); g++) {
            int outcome = first(rule, replaced(g, 0, List.of()), standing);
            found += groups.get(g).ranksAbove(outcome, usual) ? 1 << g : 0;
        }
        return found;
    }

    int raisers(int rule) {
        if (!isRule(rule)) {
            return BAD_INDEX;
        }
        int usual = first(rule, groups, standing);
        int found = 0;
        for (int g = 0; g < groups.size(); g++) {
            List<Integer> raised = groups.get(g).seen(standing);
            int place = raised.indexOf(usual);
            if (place >= 1) {
                Collections.swap(raised, place, place - 1);
                boolean hurts = first(rule, replaced(g, groups.get(g).voters(), raised), standing) != usual;
                found += hurts ? 1 << g : 0;
            }
        }
        return found;
    }

    int spoilers(int rule) {
        if (!isRule(rule)) {
            return BAD_INDEX;
        }
        int usual = first(rule, groups, standing);
        int found = 0;
        for (int c : standing) {
            List<Integer> others = new ArrayList<>(standing);
            others.remove(Integer.valueOf(c));
            found += c != usual && first(rule, groups, others) != usual ? 1 << c : 0;
        }
        return found;
    }

    int split(int rule) {
        if (!isRule(rule)) {
            return BAD_INDEX;
        }
        int usual = first(rule, groups, standing);
        for (int k = 1; k <= groups.size() - 1; k++) {
            int front = first(rule, groups.subList(0, k), standing);
            int rear = first(rule, groups.subList(k, groups.size()), standing);
            if (front == rear && front != usual) {
                return k;
            }
        }
        return NONE;
    }

    int removals(int rule) {
        if (!isRule(rule)) {
            return BAD_INDEX;
        }
        int usual = first(rule, groups, standing);
        int least = NONE;
        for (int g = 0; g < groups.size(); g++) {
            Group own = groups.get(g);
            for (int v = 1; v <= own.voters(); v++) {
                int outcome = first(rule, replaced(g, own.voters() - v, own.ballot()), standing);
                if (outcome != usual && (least == NONE || v < least)) {
                    least = v;
                }
            }
        }
        return least;
    }

    // ---- samples, history

    private int drawn;

    private int sampleWinner(int rule, int size) {
        List<Group> voters = new ArrayList<>();
        for (Group group : groups) {
            for (int v = 0; v < group.voters(); v++) {
                voters.add(new Group(1, group.ballot()));
            }
        }
        List<Group> cast = new ArrayList<>();
        for (int i = 0; i < size; i++) {
            drawn = drawn * 1103515245 + 12345;
            cast.add(voters.get((drawn >>> 8) % voters.size()));
        }
        return first(rule, cast, standing);
    }

    int sample(int rule, int x, int size) {
        if (!isRule(rule)) {
            return BAD_INDEX;
        }
        if (size < 1 || size > 50) {
            return BAD_VALUE;
        }
        if (groups.isEmpty()) {
            return BAD_STATE;
        }
        drawn = x;
        return sampleWinner(rule, size);
    }

    int agreeing(int rule, int x, int size, int many) {
        if (!isRule(rule)) {
            return BAD_INDEX;
        }
        if (size < 1 || size > 50 || many < 1 || many > 20) {
            return BAD_VALUE;
        }
        if (groups.isEmpty() || standing.isEmpty()) {
            return BAD_STATE;
        }
        drawn = x;
        int agreeing = 0;
        for (int i = 0; i < many; i++) {
            agreeing += sampleWinner(rule, size) == first(rule, groups, standing) ? 1 : 0;
        }
        return agreeing;
    }

    int undo() {
        if (history.isEmpty()) {
            return BAD_STATE;
        }
        State last = history.removeLast();
        standing = new ArrayList<>(last.standing());
        groups = new ArrayList<>(last.groups());
        return history.size();
    }

    private void remember() {
        history.addLast(new State(new ArrayList<>(standing), new ArrayList<>(groups)));
        if (history.size() > 5) {
            history.removeFirst();
        }
    }

    // ---- text

    int type(int code) {
        if (code < 0 || code > 255) {
            return BAD_VALUE;
        }
        if (text.size() == 100) {
            return FULL;
        }
        text.add(code);
        return text.size();
    }

    int clearText() {
        int length = text.size();
        text.clear();
        return length;
    }

    int textFault() {
        return parse(new ArrayList<>());
    }

    int load() {
        List<Group> read = new ArrayList<>();
        if (parse(read) != NONE) {
            return BAD_STATE;
        }
        remember();
        groups.addAll(read);
        return groups.size();
    }

    private enum Want { NUMBER, COLON, CANDIDATE, SIGN }

    /** Goes from token to token; a token is a run of digits where a number is due, else one byte. */
    private int parse(List<Group> read) {
        Want want = Want.NUMBER;
        int size = 0;
        List<Integer> ballot = new ArrayList<>();
        int i = 0;
        while (i < text.size()) {
            int code = text.get(i);
            if (code == 32) {
                i++;
                continue;
            }
            int start = i;
            switch (want) {
                case NUMBER -> {
                    StringBuilder number = new StringBuilder();
                    while (i < text.size() && text.get(i) >= 48 && text.get(i) <= 57) {
                        number.append((char) (int) text.get(i));
                        i++;
                    }
                    if (number.length() < 1 || number.length() > 3 || groups.size() + read.size() >= 20) {
                        return start;
                    }
                    size = Integer.parseInt(number.toString());
                    if (size < 1 || size > 100) {
                        return start;
                    }
                    want = Want.COLON;
                }
                case COLON -> {
                    if (code != 58) {
                        return start;
                    }
                    i++;
                    ballot = new ArrayList<>();
                    want = Want.CANDIDATE;
                }
                case CANDIDATE -> {
                    if (code < 48 || code > 52 || ballot.contains(code - 48)) {
                        return start;
                    }
                    i++;
                    ballot.add(code - 48);
                    want = Want.SIGN;
                }
                case SIGN -> {
                    if (code != 59 && code != 62) {
                        return start;
                    }
                    i++;
                    if (code == 59) {
                        read.add(new Group(size, ballot));
                    }
                    want = code == 59 ? Want.NUMBER : Want.CANDIDATE;
                }
                default -> throw new IllegalStateException();
            }
        }
        if (want != Want.SIGN) {
            return text.size();
        }
        read.add(new Group(size, ballot));
        return NONE;
    }

    // ---- the rules

    private static int first(int rule, List<Group> cast, List<Integer> set) {
        List<Integer> winners = winnersOf(rule, cast, set);
        return winners.isEmpty() ? NONE : Collections.min(winners);
    }

    static List<Integer> winnersOf(int rule, List<Group> cast, List<Integer> set) {
        if (set.isEmpty()) {
            return List.of();
        }
        switch (rule) {
            case 3:
                return withBest(rule, cast, set, -1);
            case 4:
                return strongest(cast, set);
            case 5:
                return unlocked(cast, set);
            case 6:
            case 7:
                return List.of(lastOfRounds(rule, cast, set));
            case 9:
                for (int a : set) {
                    if (beatsOthers(cast, set, a)) {
                        return List.of(a);
                    }
                }
                return withBest(1, cast, set, 1);
            case 10:
                return nanson(cast, set);
            case 11:
                List<Integer> leaders = new ArrayList<>();
                for (List<Integer> order : bestOrders(cast, set)) {
                    if (!leaders.contains(order.get(0))) {
                        leaders.add(order.get(0));
                    }
                }
                return leaders;
            default:
                return withBest(rule, cast, set, 1);
        }
    }

    private static List<Integer> withBest(int rule, List<Group> cast, List<Integer> set, int sign) {
        int best = Integer.MIN_VALUE;
        for (int a : set) {
            best = Math.max(best, sign * pointsOf(rule, cast, set, a));
        }
        List<Integer> found = new ArrayList<>();
        for (int a : set) {
            if (sign * pointsOf(rule, cast, set, a) == best) {
                found.add(a);
            }
        }
        return found;
    }

    private static int pointsOf(int rule, List<Group> cast, List<Integer> set, int a) {
        int points = 0;
        switch (rule) {
            case 0:
                return amongFirst(cast, set, a, 1);
            case 1:
                for (Group group : cast) {
                    List<Integer> seen = group.seen(set);
                    int place = seen.indexOf(a);
                    int each = place >= 0 ? 2 * (set.size() - 1 - place) : set.size() - seen.size() - 1;
                    points += group.voters() * each;
                }
                return points;
            case 2:
                for (int b : set) {
                    if (b != a && beats(cast, a, b)) {
                        points += 2;
                    } else if (b != a && !beats(cast, b, a)) {
                        points += 1;
                    }
                }
                return points;
            case 3:
                boolean any = false;
                for (int b : set) {
                    int defeat = p(cast, b, a) - p(cast, a, b);
                    if (b != a && (!any || defeat > points)) {
                        points = defeat;
                        any = true;
                    }
                }
                return points;
            case 8:
                return amongFirst(cast, set, a, bucklinDepth(cast, set));
            default:
                throw new IllegalArgumentException("rule " + rule + " gives no points");
        }
    }

    private static int amongFirst(List<Group> cast, List<Integer> set, int a, int k) {
        int points = 0;
        for (Group group : cast) {
            int place = group.seen(set).indexOf(a);
            points += place >= 0 && place < k ? group.voters() : 0;
        }
        return points;
    }

    private static int bucklinDepth(List<Group> cast, List<Integer> set) {
        for (int k = 1; k <= set.size(); k++) {
            for (int a : set) {
                if (2 * amongFirst(cast, set, a, k) > all(cast)) {
                    return k;
                }
            }
        }
        return set.size();
    }

    private static int strongestPath(List<Group> cast, List<Integer> set, List<Integer> path, int b, int weakest) {
        int from = path.get(path.size() - 1);
        if (from == b) {
            return weakest;
        }
        int best = 0;
        for (int to : set) {
            if (!path.contains(to)) {
                int link = beats(cast, from, to) ? p(cast, from, to) : 0;
                path.add(to);
                best = Math.max(best, strongestPath(cast, set, path, b, Math.min(weakest, link)));
                path.remove(path.size() - 1);
            }
        }
        return best;
    }

    private static List<Integer> strongest(List<Group> cast, List<Integer> set) {
        List<Integer> found = new ArrayList<>();
        for (int a : set) {
            boolean wins = true;
            for (int b : set) {
                wins &= a == b
                    || strongestPath(cast, set, new ArrayList<>(List.of(a)), b, Integer.MAX_VALUE)
                        >= strongestPath(cast, set, new ArrayList<>(List.of(b)), a, Integer.MAX_VALUE);
            }
            if (wins) {
                found.add(a);
            }
        }
        return found;
    }

    private static List<List<Integer>> lockedPairs(List<Group> cast, List<Integer> set) {
        List<List<Integer>> pairs = new ArrayList<>();
        for (int a : set) {
            for (int b : set) {
                if (beats(cast, a, b)) {
                    pairs.add(List.of(a, b));
                }
            }
        }
        // the sort is stable, so that equal ones stay by ascending a, then b
        pairs.sort((x, y) -> Integer.compare(lead(cast, y.get(0), y.get(1)), lead(cast, x.get(0), x.get(1))));
        List<List<Integer>> locked = new ArrayList<>();
        for (List<Integer> pair : pairs) {
            if (!comes(locked, pair.get(1), pair.get(0))) {
                locked.add(pair);
            }
        }
        return locked;
    }

    private static boolean comes(List<List<Integer>> locked, int from, int to) {
        if (from == to) {
            return true;
        }
        for (List<Integer> pair : locked) {
            if (pair.get(0) == from && comes(locked, pair.get(1), to)) {
                return true;
            }
        }
        return false;
    }

    private static List<Integer> unlocked(List<Group> cast, List<Integer> set) {
        List<Integer> found = new ArrayList<>(set);
        for (List<Integer> pair : lockedPairs(cast, set)) {
            found.remove(pair.get(1));
        }
        return found;
    }

    record Round(List<Integer> set, List<Integer> tallies, int leaver) {
    }

    private static List<Round> roundsOf(int rule, List<Group> cast, List<Integer> start) {
        List<Round> rounds = new ArrayList<>();
        List<Integer> set = new ArrayList<>(start);
        while (set.size() > 1 && (rule == 6 || majority(cast, set) < 0)) {
            List<Integer> tallies = new ArrayList<>();
            for (int a : set) {
                int tally = 0;
                for (Group group : cast) {
                    int own = rule == 6 ? firstOne(group, set) : lastOne(group, set);
                    tally += own == a ? group.voters() : 0;
                }
                tallies.add(tally);
            }
            int due = rule == 6 ? Collections.min(tallies) : Collections.max(tallies);
            int leaver = set.get(tallies.lastIndexOf(due));
            rounds.add(new Round(new ArrayList<>(set), tallies, leaver));
            set.remove(Integer.valueOf(leaver));
        }
        return rounds;
    }

    private static int lastOfRounds(int rule, List<Group> cast, List<Integer> start) {
        List<Integer> set = new ArrayList<>(start);
        for (Round round : roundsOf(rule, cast, start)) {
            set.remove(Integer.valueOf(round.leaver()));
        }
        return set.size() == 1 ? set.get(0) : majority(cast, set);
    }

    private static int firstOne(Group group, List<Integer> set) {
        List<Integer> seen = group.seen(set);
        return seen.isEmpty() ? -1 : seen.get(0);
    }

    private static int lastOne(Group group, List<Integer> set) {
        List<Integer> seen = group.seen(set);
        if (seen.size() == set.size()) {
            return seen.get(seen.size() - 1);
        }
        List<Integer> missing = new ArrayList<>(set);
        missing.removeAll(seen);
        return Collections.max(missing);
    }

    private static int majority(List<Group> cast, List<Integer> set) {
        int filled = 0;
        for (Group group : cast) {
            filled += group.seen(set).isEmpty() ? 0 : group.voters();
        }
        for (int a : set) {
            if (2 * amongFirst(cast, set, a, 1) > filled) {
                return a;
            }
        }
        return -1;
    }

    private static List<Integer> nanson(List<Group> cast, List<Integer> start) {
        List<Integer> set = new ArrayList<>(start);
        while (true) {
            int sum = 0;
            boolean equal = true;
            for (int a : set) {
                sum += pointsOf(1, cast, set, a);
                equal &= pointsOf(1, cast, set, a) == pointsOf(1, cast, set, set.get(0));
            }
            if (equal) {
                return set;
            }
            List<Integer> left = new ArrayList<>();
            for (int a : set) {
                if (pointsOf(1, cast, set, a) * set.size() >= sum) {
                    left.add(a);
                }
            }
            set = left;
        }
    }

    private static int value(List<Group> cast, List<Integer> order) {
        int value = 0;
        for (int i = 0; i < order.size(); i++) {
            for (int j = i + 1; j < order.size(); j++) {
                value += p(cast, order.get(i), order.get(j));
            }
        }
        return value;
    }

    private static List<List<Integer>> bestOrders(List<Group> cast, List<Integer> set) {
        List<List<Integer>> best = new ArrayList<>();
        int greatest = -1;
        for (List<Integer> order : orders(set)) {
            int value = value(cast, order);
            if (value > greatest) {
                best.clear();
                greatest = value;
            }
            if (value == greatest) {
                best.add(order);
            }
        }
        return best;
    }

    /** All orders of a set of ascending numbers, lexicographically. */
    private static List<List<Integer>> orders(List<Integer> set) {
        if (set.isEmpty()) {
            return List.of(List.of());
        }
        List<List<Integer>> found = new ArrayList<>();
        for (int first : set) {
            List<Integer> others = new ArrayList<>(set);
            others.remove(Integer.valueOf(first));
            for (List<Integer> rest : orders(others)) {
                List<Integer> order = new ArrayList<>(List.of(first));
                order.addAll(rest);
                found.add(order);
            }
        }
        return found;
    }

    // ---- helpers

    private static int all(List<Group> cast) {
        int all = 0;
        for (Group group : cast) {
            all += group.voters();
        }
        return all;
    }

    private static int p(List<Group> cast, int a, int b) {
        int votes = 0;
        for (Group group : cast) {
            votes += a != b && group.ranksAbove(a, b) ? group.voters() : 0;
        }
        return votes;
    }

    private static int lead(List<Group> cast, int a, int b) {
        return p(cast, a, b) - p(cast, b, a);
    }

    private static boolean beats(List<Group> cast, int a, int b) {
        return p(cast, a, b) > p(cast, b, a);
    }

    private static boolean beatsOthers(List<Group> cast, List<Integer> set, int a) {
        for (int b : set) {
            if (a != b && !beats(cast, a, b)) {
                return false;
            }
        }
        return true;
    }

    /** The groups with one replaced, or without it if it has no voters. */
    private List<Group> replaced(int group, int voters, List<Integer> ballot) {
        List<Group> changed = new ArrayList<>(groups);
        if (voters == 0) {
            changed.remove(group);
        } else {
            changed.set(group, new Group(voters, ballot));
        }
        return changed;
    }

    private static boolean isRule(int rule) {
        return rule >= 0 && rule <= 11;
    }

    private static boolean isCandidate(int candidate) {
        return candidate >= 0 && candidate <= 4;
    }

    private boolean isGroup(int group) {
        return group >= 0 && group < groups.size();
    }

    private static int mask(List<Integer> set) {
        int mask = 0;
        for (int c : set) {
            mask += 1 << c;
        }
        return mask;
    }

    private static List<Integer> ballotOf(int number) {
        String digits = Integer.toString(number);
        List<Integer> ballot = new ArrayList<>();
        for (char digit : digits.toCharArray()) {
            int candidate = digit - '1';
            if (!isCandidate(candidate) || ballot.contains(candidate)) {
                return null;
            }
            ballot.add(candidate);
        }
        return ballot;
    }

    private static int digits(List<Integer> ballot) {
        StringBuilder digits = new StringBuilder();
        for (int c : ballot) {
            digits.append(c + 1);
        }
        return Integer.parseInt(digits.toString());
    }
}
