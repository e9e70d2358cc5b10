/**
 * Elections by ranked ballots, counted by twelve rules side by side, with strategies of groups,
 * paradoxes and audits by samples. The document of this class numbers its promises; the public
 * methods stand here in the order of their promises.
 *
 * <p>No call makes an object: all rows are made by the constructors and used again.
 */
public final class RankedVotes {
    public static final int NONE = -1000000, BAD_INDEX = -1000001, BAD_VALUE = -1000002,
        BAD_STATE = -1000003, FULL = -1000004;

    private static final int CANDIDATES = 5;
    private static final int EVERYBODY = 31;
    private static final int NOBODY = -1;
    private static final int GROUPS = 20;
    private static final int LARGEST_GROUP = 100;
    private static final int STATES = 5;
    private static final int LONGEST_TEXT = 100;
    private static final int LARGEST_SAMPLE = 50;
    private static final int MOST_SAMPLES = 20;

    private static final int PLURALITY = 0, BORDA = 1, COPELAND = 2, MINIMAX = 3, SCHULZE = 4,
        RANKED_PAIRS = 5, INSTANT_RUNOFF = 6, COOMBS = 7, BUCKLIN = 8, BLACK = 9, NANSON = 10,
        KEMENY = 11, RULES = 12;

    private final State now = new State();
    private final State[] history = new State[STATES];
    private int kept;
    private final Text text = new Text();
    private final Poll poll = new Poll();
    private final Rules rules = new Rules();
    private final int[] successes = new int[CANDIDATES];

    public RankedVotes() {
        for (int i = 0; i < history.length; i++) {
            history[i] = new State();
        }
    }

    // ---- groups and candidates

    public int addGroup(int voters, int ballot) {
        int read = Ballot.fromDigits(ballot);
        if (!isGroupSize(voters) || read == Ballot.EMPTY) {
            return BAD_VALUE;
        }
        if (now.room() == 0) {
            return FULL;
        }
        remember();
        now.append(voters, read);
        return now.groups - 1;
    }

    public int removeGroup(int group) {
        if (!now.holds(group)) {
            return BAD_INDEX;
        }
        remember();
        now.drop(group);
        return now.groups;
    }

    public int setVoters(int group, int voters) {
        if (!now.holds(group)) {
            return BAD_INDEX;
        }
        if (!isGroupSize(voters)) {
            return BAD_VALUE;
        }
        remember();
        int before = now.votersOf(group);
        now.write(group, voters, now.ballotOf(group));
        return before;
    }

    public int exchange(int group, int place) {
        if (!now.holds(group)) {
            return BAD_INDEX;
        }
        int before = now.ballotOf(group);
        // the last place has no neighbour behind it; place + 1 could overflow
        if (place < 0 || place >= Ballot.length(before) - 1) {
            return BAD_INDEX;
        }
        remember();
        int after = Ballot.exchanged(before, place);
        now.write(group, now.votersOf(group), after);
        return Ballot.toDigits(after);
    }

    public int setStanding(int candidate, boolean stands) {
        if (!Candidates.exists(candidate)) {
            return BAD_INDEX;
        }
        remember();
        boolean before = Candidates.has(now.standing, candidate);
        int others = Candidates.without(now.standing, candidate);
        now.standing = stands ? others | (1 << candidate) : others;
        return before ? 1 : 0;
    }

    public int standing() {
        return now.standing;
    }

    public int groupCount() {
        return now.groups;
    }

    public int voters(int group) {
        return now.holds(group) ? now.votersOf(group) : BAD_INDEX;
    }

    public int ballot(int group) {
        return now.holds(group) ? Ballot.toDigits(now.ballotOf(group)) : BAD_INDEX;
    }

    public int allVoters() {
        return now.total();
    }

    // ---- what is counted

    public int pair(int a, int b) {
        if (!Candidates.exists(a) || !Candidates.exists(b)) {
            return BAD_INDEX;
        }
        if (!bothStand(a, b)) {
            return BAD_STATE;
        }
        castAll();
        return poll.votesFor(a, b);
    }

    public int winners(int rule) {
        if (!isRule(rule)) {
            return BAD_INDEX;
        }
        castAll();
        return rules.winnersBy(rule, poll);
    }

    public int winner(int rule) {
        if (!isRule(rule)) {
            return BAD_INDEX;
        }
        castAll();
        return rules.winnerBy(rule, poll);
    }

    public int points(int rule, int candidate) {
        if (!isRule(rule) || !Candidates.exists(candidate)) {
            return BAD_INDEX;
        }
        if (!goesByPoints(rule) || !Candidates.has(now.standing, candidate)) {
            return BAD_STATE;
        }
        castAll();
        rules.points.take(rule, poll);
        return rules.points.pointsOf(candidate);
    }

    public int beatsAll() {
        castAll();
        return orNone(rules.duels.champion(poll));
    }

    public int losesToAll() {
        castAll();
        return orNone(rules.duels.loser(poll));
    }

    public int smith() {
        castAll();
        return rules.duels.smithSet(poll);
    }

    public int strength(int a, int b) {
        if (!Candidates.exists(a) || !Candidates.exists(b)) {
            return BAD_INDEX;
        }
        if (!bothStand(a, b) || a == b) {
            return BAD_STATE;
        }
        castAll();
        rules.duels.findStrengths(poll);
        return rules.duels.strengthOf(a, b);
    }

    public int isLocked(int a, int b) {
        if (!Candidates.exists(a) || !Candidates.exists(b)) {
            return BAD_INDEX;
        }
        if (!bothStand(a, b)) {
            return BAD_STATE;
        }
        castAll();
        rules.duels.lockPairs(poll);
        return rules.duels.hasLocked(a, b) ? 1 : 0;
    }

    public int rounds(int rule) {
        if (!isRule(rule)) {
            return BAD_INDEX;
        }
        if (!goesByRounds(rule)) {
            return BAD_STATE;
        }
        castAll();
        rules.rounds.play(rule, poll);
        return rules.rounds.many;
    }

    public int leaves(int rule, int round) {
        if (!isRule(rule)) {
            return BAD_INDEX;
        }
        if (!goesByRounds(rule)) {
            return BAD_STATE;
        }
        castAll();
        rules.rounds.play(rule, poll);
        return rules.rounds.holds(round) ? rules.rounds.leaver(round) : BAD_INDEX;
    }

    public int tally(int rule, int round, int candidate) {
        if (!isRule(rule) || !Candidates.exists(candidate)) {
            return BAD_INDEX;
        }
        if (!goesByRounds(rule)) {
            return BAD_STATE;
        }
        castAll();
        rules.rounds.play(rule, poll);
        return rules.rounds.holds(round) ? rules.rounds.tallyOf(round, candidate) : BAD_INDEX;
    }

    public int kemenyValue() {
        castAll();
        rules.orders.weigh(poll);
        return rules.orders.greatest(now.standing);
    }

    public int kemeny(int place) {
        if (!isPlace(place)) {
            return BAD_INDEX;
        }
        castAll();
        rules.orders.weigh(poll);
        return rules.orders.candidateAt(poll, place);
    }

    public int favourite() {
        castAll();
        for (int c = 0; c < successes.length; c++) {
            successes[c] = 0;
        }
        for (int rule = 0; rule < RULES; rule++) {
            int first = rules.winnerBy(rule, poll);
            if (first >= 0 && first < successes.length) {
                successes[first]++;
            }
        }
        int best = NONE;
        int most = 0;
        for (int c = 0; c < successes.length; c++) {
            if (successes[c] > most) {
                most = successes[c];
                best = c;
            }
        }
        return best;
    }

    // ---- strategies and paradoxes

    public int strategy(int rule, int group) {
        if (!isRule(rule) || !now.holds(group)) {
            return BAD_INDEX;
        }
        int order = bestStrategy(rule, group);
        if (order == Ballot.EMPTY) {
            return NONE;
        }
        poll.cast(group, now.votersOf(group), order);
        return rules.winnerBy(rule, poll);
    }

    public int strategyAt(int rule, int group, int place) {
        if (!isRule(rule) || !now.holds(group) || !isPlace(place)) {
            return BAD_INDEX;
        }
        return orNone(Ballot.at(bestStrategy(rule, group), place));
    }

    public int strategists(int rule) {
        if (!isRule(rule)) {
            return BAD_INDEX;
        }
        int found = 0;
        for (int g = 0; g < now.groups; g++) {
            if (bestStrategy(rule, g) != Ballot.EMPTY) {
                found |= 1 << g;
            }
        }
        return found;
    }

    public int absentees(int rule) {
        if (!isRule(rule)) {
            return BAD_INDEX;
        }
        castAll();
        int usual = rules.winnerBy(rule, poll);
        int found = 0;
        for (int g = 0; g < now.groups; g++) {
            int without = winnerWith(rule, g, 0, Ballot.EMPTY);
            if (Ballot.prefers(now.ballotOf(g), without, usual)) {
                found |= 1 << g;
            }
        }
        return found;
    }

    public int raisers(int rule) {
        if (!isRule(rule)) {
            return BAD_INDEX;
        }
        castAll();
        int usual = rules.winnerBy(rule, poll);
        int found = 0;
        for (int g = 0; g < now.groups; g++) {
            int seen = Ballot.within(now.ballotOf(g), now.standing);
            int place = Ballot.placeOf(seen, usual);
            if (place < 1) {
                continue;
            }
            int raised = Ballot.exchanged(seen, place - 1);
            if (winnerWith(rule, g, now.votersOf(g), raised) != usual) {
                found |= 1 << g;
            }
        }
        return found;
    }

    public int spoilers(int rule) {
        if (!isRule(rule)) {
            return BAD_INDEX;
        }
        castAll();
        int usual = rules.winnerBy(rule, poll);
        int found = 0;
        for (int c = 0; c < CANDIDATES; c++) {
            if (c == usual || !Candidates.has(now.standing, c)) {
                continue;
            }
            castGroups(Candidates.without(now.standing, c), 0, now.groups);
            if (rules.winnerBy(rule, poll) != usual) {
                found |= 1 << c;
            }
        }
        return found;
    }

    public int split(int rule) {
        if (!isRule(rule)) {
            return BAD_INDEX;
        }
        castAll();
        int usual = rules.winnerBy(rule, poll);
        for (int k = 1; k < now.groups; k++) {
            castGroups(now.standing, 0, k);
            int front = rules.winnerBy(rule, poll);
            if (front == usual) {
                continue;
            }
            castGroups(now.standing, k, now.groups);
            if (rules.winnerBy(rule, poll) == front) {
                return k;
            }
        }
        return NONE;
    }

    public int removals(int rule) {
        if (!isRule(rule)) {
            return BAD_INDEX;
        }
        castAll();
        int usual = rules.winnerBy(rule, poll);
        for (int away = 1; away <= LARGEST_GROUP; away++) {
            for (int g = 0; g < now.groups; g++) {
                int left = now.votersOf(g) - away;
                if (left >= 0 && winnerWith(rule, g, left, now.ballotOf(g)) != usual) {
                    return away;
                }
            }
        }
        return NONE;
    }

    // ---- samples, history

    public int sample(int rule, int x, int size) {
        if (!isRule(rule)) {
            return BAD_INDEX;
        }
        if (!isSampleSize(size)) {
            return BAD_VALUE;
        }
        if (now.groups == 0) {
            return BAD_STATE;
        }
        castSample(x, size);
        return rules.winnerBy(rule, poll);
    }

    public int agreeing(int rule, int x, int size, int many) {
        if (!isRule(rule)) {
            return BAD_INDEX;
        }
        if (!isSampleSize(size) || many < 1 || many > MOST_SAMPLES) {
            return BAD_VALUE;
        }
        if (now.groups == 0 || now.standing == 0) {
            return BAD_STATE;
        }
        castAll();
        int usual = rules.winnerBy(rule, poll);
        int agreed = 0;
        int seed = x;
        for (int i = 0; i < many; i++) {
            seed = castSample(seed, size);
            if (rules.winnerBy(rule, poll) == usual) {
                agreed++;
            }
        }
        return agreed;
    }

    public int undo() {
        if (kept < 1 || kept > history.length) {
            return BAD_STATE;
        }
        kept--;
        State latest = history[kept];
        if (latest != null) {
            now.copy(latest);
        }
        return kept;
    }

    // ---- text

    public int type(int code) {
        if (code < 0 || code > 255) {
            return BAD_VALUE;
        }
        return text.put(code) ? text.length : FULL;
    }

    public int clearText() {
        int before = text.length;
        text.length = 0;
        return before;
    }

    public int textFault() {
        return text.read(now.room());
    }

    public int load() {
        if (text.read(now.room()) != NONE) {
            return BAD_STATE;
        }
        remember();
        for (int i = 0; i < text.groups; i++) {
            now.append(text.votersOf(i), text.ballotOf(i));
        }
        return now.groups;
    }

    // ---- arguments and answers

    private static boolean isRule(int rule) {
        return rule >= 0 && rule < RULES;
    }

    private static boolean goesByPoints(int rule) {
        return rule == PLURALITY || rule == BORDA || rule == COPELAND || rule == MINIMAX
            || rule == BUCKLIN;
    }

    private static boolean goesByRounds(int rule) {
        return rule == INSTANT_RUNOFF || rule == COOMBS;
    }

    private static boolean isGroupSize(int voters) {
        return voters >= 1 && voters <= LARGEST_GROUP;
    }

    private static boolean isSampleSize(int size) {
        return size >= 1 && size <= LARGEST_SAMPLE;
    }

    private static int orNone(int candidate) {
        return candidate == NOBODY ? NONE : candidate;
    }

    private boolean bothStand(int a, int b) {
        return Candidates.has(now.standing, a) && Candidates.has(now.standing, b);
    }

    private boolean isPlace(int place) {
        return place >= 0 && place < Integer.bitCount(now.standing);
    }

    // ---- what is cast

    private void castAll() {
        castGroups(now.standing, 0, now.groups);
    }

    private void castGroups(int candidates, int from, int to) {
        poll.open(candidates);
        for (int g = from; g < to; g++) {
            poll.cast(g, now.votersOf(g), now.ballotOf(g));
        }
    }

    /** The winner if one group were another, all groups being cast; the poll is as before then. */
    private int winnerWith(int rule, int group, int voters, int ballot) {
        poll.cast(group, voters, ballot);
        int winner = rules.winnerBy(rule, poll);
        poll.cast(group, now.votersOf(group), now.ballotOf(group));
        return winner;
    }

    /**
     * The order that is the best strategy, as a ballot, or an empty one. All other groups are cast
     * as they are then.
     */
    private int bestStrategy(int rule, int group) {
        castAll();
        int voters = now.votersOf(group);
        int honest = Ballot.within(now.ballotOf(group), now.standing);
        int favourite = Ballot.at(honest, 0);
        int best = rules.winnerBy(rule, poll);
        int found = Ballot.EMPTY;
        int orders = Ballot.factorial(Integer.bitCount(now.standing));
        // nothing is better than the favourite, so that no order after it needs a count
        for (int i = 0; i < orders && best != favourite; i++) {
            int order = Ballot.order(now.standing, i);
            poll.cast(group, voters, order);
            int winner = rules.winnerBy(rule, poll);
            if (Ballot.prefers(honest, winner, best)) {
                best = winner;
                found = order;
            }
        }
        return found;
    }

    /** Casts just the voters of a sample; returns x as it is after the last one. */
    private int castSample(int x, int size) {
        poll.open(now.standing);
        int all = now.total();
        int drawn = x;
        for (int i = 0; i < size; i++) {
            drawn = drawn * 1103515245 + 12345;
            int voter = all > 0 ? (drawn >>> 8) % all : 0;
            int group = now.groupOf(voter);
            poll.cast(group, poll.votersOf(group) + 1, now.ballotOf(group));
        }
        return drawn;
    }

    // ---- history

    private void remember() {
        if (kept >= history.length) {
            dropOldest();
        }
        if (kept < 0 || kept >= history.length) {
            return;
        }
        State place = history[kept];
        if (place != null) {
            place.copy(now);
            kept++;
        }
    }

    private void dropOldest() {
        State oldest = history[0];
        for (int i = 1; i < history.length; i++) {
            history[i - 1] = history[i];
        }
        history[history.length - 1] = oldest;
        kept = history.length - 1;
    }

    /** Sets of candidates: a set is the sum of 2^c for each one in it. */
    private static final class Candidates {
        static boolean exists(int candidate) {
            return candidate >= 0 && candidate < CANDIDATES;
        }

        static boolean has(int set, int candidate) {
            return candidate >= 0 && candidate < CANDIDATES && (set >>> candidate & 1) != 0;
        }

        static int without(int set, int candidate) {
            return candidate >= 0 && candidate < CANDIDATES ? set & ~(1 << candidate) : set;
        }

        static int lowest(int set) {
            for (int c = 0; c < CANDIDATES; c++) {
                if (has(set, c)) {
                    return c;
                }
            }
            return NOBODY;
        }
    }

    /**
     * Ballots as ints of octal digits: the last digit is the first candidate plus 1, and so on; 0
     * ends it. This way a ballot is looked at, and another one tried, without rows.
     */
    private static final class Ballot {
        static final int EMPTY = 0;

        /** The candidate at a place, or NOBODY behind the last one. */
        static int at(int ballot, int place) {
            return place >= 0 && place < CANDIDATES ? (ballot >>> (3 * place) & 7) - 1 : NOBODY;
        }

        static int length(int ballot) {
            int length = 0;
            while (length < CANDIDATES && at(ballot, length) != NOBODY) {
                length++;
            }
            return length;
        }

        /** The place of a candidate, or -1 if it is not on the ballot. */
        static int placeOf(int ballot, int candidate) {
            for (int place = 0; place < CANDIDATES && candidate >= 0; place++) {
                if (at(ballot, place) == candidate) {
                    return place;
                }
            }
            return -1;
        }

        static int append(int ballot, int candidate) {
            return ballot | (candidate + 1) << (3 * length(ballot));
        }

        /** The ballot of the document's decimal digits, or EMPTY if they are none. */
        static int fromDigits(int digits) {
            int ballot = EMPTY;
            int seen = 0;
            int rest = digits;
            for (int i = 0; i < CANDIDATES && rest > 0; i++) {
                int candidate = rest % 10 - 1;
                if (!Candidates.exists(candidate) || Candidates.has(seen, candidate)) {
                    return EMPTY;
                }
                seen |= 1 << candidate;
                ballot = (ballot << 3) | (candidate + 1);
                rest /= 10;
            }
            return rest == 0 ? ballot : EMPTY;
        }

        static int toDigits(int ballot) {
            int digits = 0;
            int length = length(ballot);
            for (int place = 0; place < length; place++) {
                digits = digits * 10 + at(ballot, place) + 1;
            }
            return digits;
        }

        /** The ballot without all candidates that are not in a set. */
        static int within(int ballot, int set) {
            int kept = EMPTY;
            int shift = 0;
            for (int place = 0; place < CANDIDATES; place++) {
                int candidate = at(ballot, place);
                if (Candidates.has(set, candidate)) {
                    kept |= (candidate + 1) << shift;
                    shift += 3;
                }
            }
            return kept;
        }

        /** The ballot with the candidates at a place and the next one exchanged. */
        static int exchanged(int ballot, int place) {
            int first = at(ballot, place) + 1;
            int second = at(ballot, place + 1) + 1;
            int both = first ^ second;
            return ballot ^ (both << (3 * place)) ^ (both << (3 * (place + 1)));
        }

        static boolean prefers(int ballot, int candidate, int other) {
            int place = placeOf(ballot, candidate);
            int behind = placeOf(ballot, other);
            return place >= 0 && (behind < 0 || place < behind);
        }

        static int factorial(int number) {
            int product = 1;
            for (int i = 2; i <= number && i <= CANDIDATES; i++) {
                product *= i;
            }
            return product;
        }

        /** The order with a number, from 0, of all orders of a set in their lexicographic order. */
        static int order(int set, int number) {
            int order = EMPTY;
            int rest = set;
            int before = number;
            int size = Integer.bitCount(set);
            for (int place = 0; place < size; place++) {
                int alike = factorial(size - 1 - place);
                for (int c = 0; c < CANDIDATES; c++) {
                    if (!Candidates.has(rest, c)) {
                        continue;
                    }
                    if (before < alike) {
                        order |= (c + 1) << (3 * place);
                        rest = Candidates.without(rest, c);
                        break;
                    }
                    before -= alike;
                }
            }
            return order;
        }
    }

    /** What undo() brings back: who stands, and the groups. */
    private static final class State {
        int standing = EVERYBODY;
        int groups;
        private final int[] voters = new int[GROUPS];
        private final int[] ballots = new int[GROUPS];

        boolean holds(int group) {
            return group >= 0 && group < groups;
        }

        int room() {
            return GROUPS - groups;
        }

        int votersOf(int group) {
            return group >= 0 && group < voters.length ? voters[group] : 0;
        }

        int ballotOf(int group) {
            return group >= 0 && group < ballots.length ? ballots[group] : Ballot.EMPTY;
        }

        void write(int group, int size, int ballot) {
            if (group >= 0 && group < GROUPS) {
                voters[group] = size;
                ballots[group] = ballot;
            }
        }

        void append(int size, int ballot) {
            if (room() > 0) {
                write(groups, size, ballot);
                groups++;
            }
        }

        void drop(int group) {
            for (int g = group + 1; g < groups; g++) {
                write(g - 1, votersOf(g), ballotOf(g));
            }
            groups--;
        }

        int total() {
            int total = 0;
            for (int g = 0; g < groups; g++) {
                total += votersOf(g);
            }
            return total;
        }

        /** The group of a voter, who are numbered group after group. */
        int groupOf(int voter) {
            int before = 0;
            for (int g = 0; g < groups; g++) {
                before += votersOf(g);
                if (voter < before) {
                    return g;
                }
            }
            return groups - 1;
        }

        void copy(State other) {
            standing = other.standing;
            groups = other.groups;
            for (int g = 0; g < GROUPS; g++) {
                voters[g] = other.voters[g];
                ballots[g] = other.ballots[g];
            }
        }
    }

    /** The bytes that were typed, and the groups that they tell. */
    private static final class Text {
        int length;
        int groups;
        private int at;
        private final char[] bytes = new char[LONGEST_TEXT];
        private final int[] voters = new int[GROUPS];
        private final int[] ballots = new int[GROUPS];

        /** Appends a byte; false if there is no room. */
        boolean put(int code) {
            if (length < 0 || length >= bytes.length) {
                return false;
            }
            bytes[length] = (char) code;
            length++;
            return true;
        }

        int votersOf(int group) {
            return group >= 0 && group < voters.length ? voters[group] : 0;
        }

        int ballotOf(int group) {
            return group >= 0 && group < ballots.length ? ballots[group] : Ballot.EMPTY;
        }

        /** The fault if there is room for so many groups, or NONE: then the groups can be taken. */
        int read(int room) {
            at = 0;
            groups = 0;
            for (int turn = 0; turn <= GROUPS; turn++) {
                if (!readGroup(room)) {
                    return at;
                }
                if (next() == NOBODY) {
                    return NONE;
                }
                if (!readSign(';')) {
                    return at;
                }
            }
            return at;
        }

        /** Reads a group; if it has a fault, it is where the reading stays. */
        private boolean readGroup(int room) {
            int first = next();
            if (groups < 0 || groups >= room || groups >= GROUPS || !isDigit(first)) {
                return false;
            }
            int size = readNumber();
            if (size == 0 || !readSign(':')) {
                return false;
            }
            int ballot = readBallot();
            if (ballot == Ballot.EMPTY) {
                return false;
            }
            voters[groups] = size;
            ballots[groups] = ballot;
            groups++;
            return true;
        }

        /** The number from here on, or 0 if it is wrong: the fault is its first digit then. */
        private int readNumber() {
            int start = at;
            int number = 0;
            // four digits are too many already, and the rest of a long number could overflow
            while (at < length && at < start + 4 && isDigit(byteAt(at))) {
                number = number * 10 + byteAt(at) - '0';
                at++;
            }
            if (at - start > 3 || !isGroupSize(number)) {
                at = start;
                return 0;
            }
            return number;
        }

        /** The ballot from here on, or EMPTY if it has a fault. */
        private int readBallot() {
            int ballot = Ballot.EMPTY;
            for (int place = 0; place <= CANDIDATES; place++) {
                int candidate = next() - '0';
                if (!Candidates.exists(candidate) || Ballot.placeOf(ballot, candidate) >= 0) {
                    return Ballot.EMPTY;
                }
                ballot = Ballot.append(ballot, candidate);
                at++;
                if (!readSign('>')) {
                    return ballot;
                }
            }
            return Ballot.EMPTY;
        }

        private boolean readSign(char sign) {
            boolean found = next() == sign;
            if (found) {
                at++;
            }
            return found;
        }

        /** The next byte that is no blank, or NOBODY at the end; the reading stays there. */
        private int next() {
            while (at < length && byteAt(at) == ' ') {
                at++;
            }
            return at < length ? byteAt(at) : NOBODY;
        }

        private int byteAt(int index) {
            return index >= 0 && index < bytes.length ? bytes[index] : NOBODY;
        }

        private static boolean isDigit(int code) {
            return code >= '0' && code <= '9';
        }
    }

    /**
     * The ballots that are cast in one count, group by group, without those who do not stand. The
     * pairs are kept up as one group changes, so that another ballot of it is tried cheaply.
     */
    private static final class Poll {
        int standing;
        int all;
        final int[][] above = new int[CANDIDATES][CANDIDATES];
        private final int[] voters = new int[GROUPS];
        private final int[][] ranked = new int[GROUPS][CANDIDATES];

        void open(int candidates) {
            standing = candidates;
            all = 0;
            for (int g = 0; g < GROUPS; g++) {
                voters[g] = 0;
            }
            for (int a = 0; a < CANDIDATES; a++) {
                for (int b = 0; b < CANDIDATES; b++) {
                    above[a][b] = 0;
                }
            }
        }

        int votersOf(int group) {
            return group >= 0 && group < voters.length ? voters[group] : 0;
        }

        /** Casts a ballot for the voters of a group, in place of what it has cast before. */
        void cast(int group, int size, int ballot) {
            if (group < 0 || group >= GROUPS) {
                return;
            }
            compare(ranked[group], -voters[group]);
            voters[group] = size;
            int seen = Ballot.within(ballot, standing);
            for (int place = 0; place < CANDIDATES; place++) {
                ranked[group][place] = Ballot.at(seen, place);
            }
            compare(ranked[group], size);
        }

        private void compare(int[] row, int size) {
            all += size;
            int below = standing;
            for (int place = 0; place < row.length && size != 0; place++) {
                int a = row[place];
                if (a < 0 || a >= CANDIDATES) {
                    return;
                }
                below = Candidates.without(below, a);
                for (int b = 0; b < CANDIDATES; b++) {
                    if (Candidates.has(below, b)) {
                        above[a][b] += size;
                    }
                }
            }
        }

        /** P of the document. */
        int votesFor(int a, int b) {
            return Candidates.exists(a) && Candidates.exists(b) ? above[a][b] : 0;
        }

        /** Adds to a row how many voters rank each one first, of a set. */
        void addFirsts(int set, int[] row) {
            for (int g = 0; g < GROUPS; g++) {
                for (int place = 0; place < CANDIDATES; place++) {
                    int c = ranked[g][place];
                    if (Candidates.has(set, c) && c >= 0 && c < row.length) {
                        row[c] += voters[g];
                        break;
                    }
                }
            }
        }

        /** Adds to a row how many voters' last one each one is, of a set, by the rule of Coombs. */
        void addLasts(int set, int[] row) {
            for (int g = 0; g < GROUPS; g++) {
                int last = NOBODY;
                int missing = set;
                for (int place = 0; place < CANDIDATES; place++) {
                    int c = ranked[g][place];
                    last = Candidates.has(set, c) ? c : last;
                    missing = Candidates.without(missing, c);
                }
                for (int c = 0; c < CANDIDATES; c++) {
                    last = Candidates.has(missing, c) ? c : last;
                }
                if (last >= 0 && last < row.length) {
                    row[last] += voters[g];
                }
            }
        }

        /** Adds to a row how many voters have each one at a place. */
        void addPlace(int place, int[] row) {
            for (int g = 0; g < GROUPS && place >= 0 && place < CANDIDATES; g++) {
                int c = ranked[g][place];
                if (c >= 0 && c < row.length) {
                    row[c] += voters[g];
                }
            }
        }
    }

    /** The rules that give points. */
    private static final class Points {
        private final int[] row = new int[CANDIDATES];

        int pointsOf(int candidate) {
            return candidate >= 0 && candidate < row.length ? row[candidate] : 0;
        }

        /** Takes the points of one of the rules that have some. */
        void take(int rule, Poll poll) {
            clear();
            switch (rule) {
                case PLURALITY:
                    poll.addFirsts(poll.standing, row);
                    break;
                case BORDA:
                    borda(poll, poll.standing);
                    break;
                case COPELAND:
                    copeland(poll);
                    break;
                case MINIMAX:
                    minimax(poll);
                    break;
                default:
                    bucklin(poll);
                    break;
            }
        }

        private void clear() {
            for (int c = 0; c < row.length; c++) {
                row[c] = 0;
            }
        }

        /**
         * The places on the ballots need not be looked at: a voter gives a candidate 2 points for
         * each one ranked below it and 1 for each one ranked equally, which is 1 for each other
         * one, 1 more for each below it, and 1 less for each above it.
         */
        private void borda(Poll poll, int set) {
            for (int a = 0; a < CANDIDATES; a++) {
                row[a] = 0;
                for (int b = 0; b < CANDIDATES; b++) {
                    if (a != b && Candidates.has(set, b)) {
                        row[a] += poll.all + poll.above[a][b] - poll.above[b][a];
                    }
                }
            }
        }

        private void copeland(Poll poll) {
            for (int a = 0; a < CANDIDATES; a++) {
                for (int b = 0; b < CANDIDATES; b++) {
                    if (a != b && Candidates.has(poll.standing, b)) {
                        int lead = poll.above[a][b] - poll.above[b][a];
                        row[a] += lead > 0 ? 2 : lead == 0 ? 1 : 0;
                    }
                }
            }
        }

        private void minimax(Poll poll) {
            for (int a = 0; a < CANDIDATES; a++) {
                boolean alone = true;
                for (int b = 0; b < CANDIDATES; b++) {
                    if (a == b || !Candidates.has(poll.standing, b)) {
                        continue;
                    }
                    int defeat = poll.above[b][a] - poll.above[a][b];
                    row[a] = alone ? defeat : Math.max(row[a], defeat);
                    alone = false;
                }
            }
        }

        private void bucklin(Poll poll) {
            int size = Integer.bitCount(poll.standing);
            for (int k = 1; k <= size; k++) {
                poll.addPlace(k - 1, row);
                for (int c = 0; c < row.length; c++) {
                    if (2 * row[c] > poll.all) {
                        return;
                    }
                }
            }
        }

        int most(int set) {
            return best(set, 1);
        }

        int fewest(int set) {
            return best(set, -1);
        }

        private int best(int set, int sign) {
            int found = 0;
            int most = 0;
            for (int c = 0; c < row.length; c++) {
                if (!Candidates.has(set, c)) {
                    continue;
                }
                if (found == 0 || sign * row[c] > most) {
                    found = 0;
                    most = sign * row[c];
                }
                if (sign * row[c] == most) {
                    found |= 1 << c;
                }
            }
            return found;
        }

        /**
         * Not all points are equal just if some are below the average, so that this one test is
         * enough for both cases of the rule.
         */
        int nanson(Poll poll) {
            int set = poll.standing;
            for (int round = 0; round < CANDIDATES; round++) {
                borda(poll, set);
                int leaving = belowAverage(set);
                if (leaving == 0) {
                    return set;
                }
                set &= ~leaving;
            }
            return set;
        }

        private int belowAverage(int set) {
            int sum = 0;
            for (int c = 0; c < row.length; c++) {
                sum += Candidates.has(set, c) ? row[c] : 0;
            }
            int size = Integer.bitCount(set);
            int below = 0;
            for (int c = 0; c < row.length; c++) {
                if (Candidates.has(set, c) && row[c] * size < sum) {
                    below |= 1 << c;
                }
            }
            return below;
        }
    }

    /** The rules by which one candidate after the other leaves. */
    private static final class Rounds {
        int many;
        private final int[] leavers = new int[CANDIDATES];
        private final int[] sets = new int[CANDIDATES];
        private final int[][] tallies = new int[CANDIDATES][CANDIDATES];
        private final int[] firsts = new int[CANDIDATES];

        boolean holds(int round) {
            return round >= 0 && round < many;
        }

        int leaver(int round) {
            return round >= 0 && round < leavers.length ? leavers[round] : NOBODY;
        }

        int tallyOf(int round, int candidate) {
            if (round < 0 || round >= CANDIDATES || !Candidates.has(sets[round], candidate)) {
                return NONE;
            }
            return tallies[round][candidate];
        }

        /** Returns the winners, which are one or nobody. */
        int play(int rule, Poll poll) {
            int set = poll.standing;
            many = 0;
            for (int round = 0; round < CANDIDATES && Integer.bitCount(set) > 1; round++) {
                if (rule == COOMBS) {
                    clear(firsts);
                    poll.addFirsts(set, firsts);
                    int majority = majority();
                    if (majority != NOBODY) {
                        return 1 << majority;
                    }
                }
                int[] row = tallies[round];
                clear(row);
                if (rule == COOMBS) {
                    poll.addLasts(set, row);
                    leavers[round] = greatest(row, set);
                } else {
                    poll.addFirsts(set, row);
                    leavers[round] = smallest(row, set);
                }
                sets[round] = set;
                set = Candidates.without(set, leavers[round]);
                many = round + 1;
            }
            return set;
        }

        /** Whom more than half of the ballots that are not empty rank first, or NOBODY. */
        private int majority() {
            int ballots = 0;
            for (int c = 0; c < firsts.length; c++) {
                ballots += firsts[c];
            }
            for (int c = 0; c < firsts.length; c++) {
                if (2 * firsts[c] > ballots) {
                    return c;
                }
            }
            return NOBODY;
        }

        private static void clear(int[] row) {
            for (int c = 0; c < row.length; c++) {
                row[c] = 0;
            }
        }

        private static int smallest(int[] row, int set) {
            int found = NOBODY;
            int least = 0;
            for (int c = 0; c < row.length; c++) {
                if (Candidates.has(set, c) && (found == NOBODY || row[c] <= least)) {
                    found = c;
                    least = row[c];
                }
            }
            return found;
        }

        private static int greatest(int[] row, int set) {
            int found = NOBODY;
            int most = 0;
            for (int c = 0; c < row.length; c++) {
                if (Candidates.has(set, c) && row[c] >= most) {
                    found = c;
                    most = row[c];
                }
            }
            return found;
        }
    }

    /** What follows from who beats whom. */
    private static final class Duels {
        private final int[][] strengths = new int[CANDIDATES][CANDIDATES];
        private final int[] locked = new int[CANDIDATES];
        private final int[] reached = new int[CANDIDATES];

        /** The candidate that beats all others, or NOBODY. */
        int champion(Poll poll) {
            for (int a = 0; a < CANDIDATES; a++) {
                if (Candidates.has(poll.standing, a) && dominates(poll, 1 << a)) {
                    return a;
                }
            }
            return NOBODY;
        }

        /** The candidate that all others beat, or NOBODY. */
        int loser(Poll poll) {
            for (int a = 0; a < CANDIDATES; a++) {
                int others = Candidates.without(poll.standing, a);
                if (Candidates.has(poll.standing, a) && others != 0 && dominates(poll, others)) {
                    return a;
                }
            }
            return NOBODY;
        }

        /** Of two sets that dominate one holds the other, so that the smallest one is just one. */
        int smithSet(Poll poll) {
            int smallest = poll.standing;
            for (int set = 1; set < EVERYBODY; set++) {
                if ((set & ~poll.standing) == 0 && dominates(poll, set)
                    && Integer.bitCount(set) < Integer.bitCount(smallest)) {
                    smallest = set;
                }
            }
            return smallest;
        }

        /** True if each candidate of a set beats each one that is not in it. */
        private boolean dominates(Poll poll, int set) {
            for (int a = 0; a < CANDIDATES; a++) {
                for (int b = 0; b < CANDIDATES; b++) {
                    if (Candidates.has(set, a) && Candidates.has(poll.standing & ~set, b)
                        && poll.above[a][b] <= poll.above[b][a]) {
                        return false;
                    }
                }
            }
            return true;
        }

        int strengthOf(int a, int b) {
            return Candidates.exists(a) && Candidates.exists(b) ? strengths[a][b] : 0;
        }

        /** A path that goes through a candidate twice is no stronger than without the detour. */
        void findStrengths(Poll poll) {
            for (int a = 0; a < CANDIDATES; a++) {
                for (int b = 0; b < CANDIDATES; b++) {
                    int votes = poll.above[a][b];
                    strengths[a][b] = votes > poll.above[b][a] ? votes : 0;
                }
            }
            for (int via = 0; via < CANDIDATES; via++) {
                for (int a = 0; a < CANDIDATES; a++) {
                    for (int b = 0; b < CANDIDATES; b++) {
                        int detour = Math.min(strengths[a][via], strengths[via][b]);
                        strengths[a][b] = Math.max(strengths[a][b], detour);
                    }
                }
            }
        }

        /** Who wins by the strengths found. */
        int strongest(Poll poll) {
            int winners = poll.standing;
            for (int a = 0; a < CANDIDATES; a++) {
                for (int b = 0; b < CANDIDATES; b++) {
                    if (strengths[a][b] < strengths[b][a]) {
                        winners = Candidates.without(winners, a);
                    }
                }
            }
            return winners;
        }

        boolean hasLocked(int a, int b) {
            return a >= 0 && a < locked.length && Candidates.has(locked[a], b);
        }

        void lockPairs(Poll poll) {
            for (int a = 0; a < CANDIDATES; a++) {
                locked[a] = 0;
                reached[a] = 0;
            }
            int gone = 0;
            for (int turn = 0; turn < CANDIDATES * CANDIDATES; turn++) {
                int pair = clearestPair(poll, gone);
                if (pair < 0) {
                    return;
                }
                gone |= 1 << pair;
                lock(pair / CANDIDATES, pair % CANDIDATES);
            }
        }

        /** The next pair to go through, as a * CANDIDATES + b, or -1 if all are gone. */
        private int clearestPair(Poll poll, int gone) {
            int found = -1;
            int most = 0;
            for (int a = 0; a < CANDIDATES; a++) {
                for (int b = 0; b < CANDIDATES; b++) {
                    int pair = a * CANDIDATES + b;
                    int lead = poll.above[a][b] - poll.above[b][a];
                    if (lead > most && (gone >>> pair & 1) == 0) {
                        found = pair;
                        most = lead;
                    }
                }
            }
            return found;
        }

        private void lock(int a, int b) {
            if (!Candidates.exists(a) || !Candidates.exists(b) || Candidates.has(reached[b], a)) {
                return;
            }
            locked[a] |= 1 << b;
            int further = reached[b] | (1 << b);
            for (int c = 0; c < CANDIDATES; c++) {
                if (c == a || Candidates.has(reached[c], a)) {
                    reached[c] |= further;
                }
            }
        }

        /** Who wins by the pairs locked. */
        int sources(Poll poll) {
            int winners = poll.standing;
            for (int a = 0; a < CANDIDATES; a++) {
                winners &= ~locked[a];
            }
            return winners;
        }
    }

    /** Whole orders: the rule of Kemeny. */
    private static final class Orders {
        /** The greatest value of an order of each set. */
        private final int[] values = new int[EVERYBODY + 1];

        int greatest(int set) {
            return set >= 0 && set < values.length ? values[set] : 0;
        }

        /**
         * What stands behind the first candidate of a best order is a best order too, so that sets
         * can be gone through in place of orders; the subsets of a set have smaller numbers.
         */
        void weigh(Poll poll) {
            for (int set = 0; set < values.length; set++) {
                values[set] = 0;
                for (int first = 0; first < CANDIDATES && (set & ~poll.standing) == 0; first++) {
                    if (Candidates.has(set, first)) {
                        values[set] = Math.max(values[set], valueWith(poll, set, first));
                    }
                }
            }
        }

        /** The greatest value of an order of a set that begins with a candidate. */
        private int valueWith(Poll poll, int set, int first) {
            int others = Candidates.without(set, first);
            int value = greatest(others);
            if (!Candidates.exists(first)) {
                return value;
            }
            for (int b = 0; b < CANDIDATES; b++) {
                if (Candidates.has(others, b)) {
                    value += poll.above[first][b];
                }
            }
            return value;
        }

        /** The candidates that come first in a best order of a set. */
        int leaders(Poll poll, int set) {
            int found = 0;
            for (int first = 0; first < CANDIDATES; first++) {
                if (Candidates.has(set, first) && valueWith(poll, set, first) == greatest(set)) {
                    found |= 1 << first;
                }
            }
            return found;
        }

        int candidateAt(Poll poll, int place) {
            int rest = poll.standing;
            for (int before = 0; before < place && before < CANDIDATES; before++) {
                rest = Candidates.without(rest, Candidates.lowest(leaders(poll, rest)));
            }
            return Candidates.lowest(leaders(poll, rest));
        }
    }

    /** All rules by their numbers. */
    private static final class Rules {
        final Points points = new Points();
        final Rounds rounds = new Rounds();
        final Duels duels = new Duels();
        final Orders orders = new Orders();

        int winnerBy(int rule, Poll poll) {
            int lowest = Candidates.lowest(winnersBy(rule, poll));
            return lowest == NOBODY ? NONE : lowest;
        }

        int winnersBy(int rule, Poll poll) {
            switch (rule) {
                case MINIMAX:
                    points.take(rule, poll);
                    return points.fewest(poll.standing);
                case SCHULZE:
                    duels.findStrengths(poll);
                    return duels.strongest(poll);
                case RANKED_PAIRS:
                    duels.lockPairs(poll);
                    return duels.sources(poll);
                case INSTANT_RUNOFF:
                case COOMBS:
                    return rounds.play(rule, poll);
                case BLACK:
                    int champion = duels.champion(poll);
                    points.take(BORDA, poll);
                    return champion == NOBODY ? points.most(poll.standing) : 1 << champion;
                case NANSON:
                    return points.nanson(poll);
                case KEMENY:
                    orders.weigh(poll);
                    return orders.leaders(poll, poll.standing);
                default:
                    points.take(rule, poll);
                    return points.most(poll.standing);
            }
        }
    }
}
