/** The sentences that bound the text: promises 38 to 41 at their edges. */
public final class TextEdgeTest {
    private static final int NONE = Votes.NONE, BAD_VALUE = Votes.BAD_VALUE, BAD_STATE = Votes.BAD_STATE,
        FULL = Votes.FULL;

    public static void main(String[] args) {
        bytes();
        hundredBytes();
        hundredBytesOfGroups();
        clearedText();
        oneToThreeDigits();
        oneToHundredVoters();
        moreThanThreeDigits();
        candidates();
        sameGroup();
        oneToFiveCandidates();
        endsTooEarly();
        emptyText();
        blanksAnywhere();
        blanksInNumbers();
        firstFault();
        otherBytes();
        roomForGroups();
        roomForTheLast();
        loadAddsInOrder();
        loadIsRefused();
        Check.finish();
    }

    private static void dueFault(RankedVotes x, String text, int due) {
        Votes.write(x, text);
        Check.due("fault of '" + text + "'", x.textFault(), due);
    }

    private static void dueFault(String text, int due) {
        RankedVotes x = new RankedVotes();
        dueFault(x, text, due);
        int groups = text.length() - text.replace(";", "").length() + 1;
        Check.due("load of '" + text + "'", x.load(), due == NONE ? groups : BAD_STATE);
        Check.due("groupCount() then", x.groupCount(), due == NONE ? groups : 0);
        Check.due("undo() then", x.undo(), due == NONE ? 0 : BAD_STATE);
        Check.due("clearText() then", x.clearText(), text.length());
    }

    private static void bytes() {
        Check.sentence("- `code`: the byte, 0 to 255");
        RankedVotes x = new RankedVotes();
        for (int code = 0; code < 256; code++) {
            x = code % 100 == 0 ? new RankedVotes() : x;
            Check.due("type(" + code + ")", x.type(code), code % 100 + 1);
        }
        RankedVotes y = new RankedVotes();
        for (int code : new int[] {-1, 256, -2, 257, 256 + '5', -256 + '5', 65536 + '5', Votes.LEAST, Votes.GREATEST}) {
            Check.due("type(" + code + ")", y.type(code), BAD_VALUE);
        }
        Check.due("clearText() after wrong ones", y.clearText(), 0);
    }

    private static void hundredBytes() {
        Check.sentence("Returns the length of the text; BAD_VALUE if code is out of range; FULL if the text has 100 bytes.");
        RankedVotes x = new RankedVotes();
        for (int length = 1; length <= 100; length++) {
            Check.due("type(48) as number " + length, x.type('0'), length);
        }
        for (int code : new int[] {0, 48, 255}) {
            Check.due("type(" + code + ") as number 101", x.type(code), FULL);
        }
        for (int code : new int[] {-1, 256}) {
            Check.due("type(" + code + ") as number 101", x.type(code), BAD_VALUE);
        }
        Check.due("clearText()", x.clearText(), 100);
        Check.due("type(48) as number 1", x.type('0'), 1);
    }

    private static void hundredBytesOfGroups() {
        Check.sentence("Groups can be given by a text of at most 100 bytes with this grammar");
        // the last byte counts, and so does what ends one byte too early there
        String text = "5:0" + ";5:0".repeat(19);
        RankedVotes x = new RankedVotes();
        dueFault(x, text + " ".repeat(100 - text.length()), NONE);
        dueFault(x, " ".repeat(100 - text.length()) + text, NONE);
        Check.due("type as number 101", x.type('x'), FULL);
        Check.due("textFault() then", x.textFault(), NONE);
        Check.due("load()", x.load(), 20);
        Check.due("voters(19)", x.voters(19), 5);
        Check.due("undo()", x.undo(), 0);
        dueFault(" ".repeat(100), 100);
        dueFault(" ".repeat(97) + "5:0", NONE);
        dueFault(" ".repeat(98) + "5:", 100);
        dueFault(" ".repeat(99) + "5", 100);
        dueFault(" ".repeat(96) + "5:0;", 100);
        dueFault(" ".repeat(95) + "5:0>1", NONE);
        dueFault(" ".repeat(95) + "5:0>0", 99);
        dueFault("5:0" + " ".repeat(96) + "x", 99);
        dueFault("5" + " ".repeat(97) + ":4", NONE);
        dueFault(" ".repeat(95) + "100:1", NONE);
        dueFault(" ".repeat(95) + "101:1", 95);
        dueFault(" ".repeat(96) + "1000", 96);
        dueFault("0".repeat(100), 0);
    }

    private static void clearedText() {
        Check.sentence("Returns the length that it had.");
        RankedVotes x = new RankedVotes();
        for (int length : new int[] {0, 1, 99, 100, 0}) {
            Votes.write(x, "5".repeat(length));
            Check.due("clearText() of " + length, x.clearText(), length);
            Check.due("clearText() again", x.clearText(), 0);
            Check.due("textFault() then", x.textFault(), 0);
            Check.due("load() then", x.load(), BAD_STATE);
            x = new RankedVotes();
        }
        // nothing of the longer text is left behind the shorter one
        Votes.write(x, "5:0>1;6:2");
        Votes.write(x, "5:0");
        Check.due("textFault() of the shorter one", x.textFault(), NONE);
        Check.due("load() of the shorter one", x.load(), 1);
        Check.due("ballot(0) of the shorter one", x.ballot(0), 1);
        Votes.write(x, "1");
        Check.due("textFault() of the shortest one", x.textFault(), 1);
    }

    private static void oneToThreeDigits() {
        Check.sentence("The number of voters has 1 to 3 digits.");
        String[] numbers = {"7", "07", "007", "70", "070", "10", "010", "100", "001", "01", "1", "9", "99", "099"};
        int[] due = {7, 7, 7, 70, 70, 10, 10, 100, 1, 1, 1, 9, 99, 99};
        for (int i = 0; i < numbers.length; i++) {
            RankedVotes x = new RankedVotes();
            dueFault(x, numbers[i] + ":0", NONE);
            Check.due("load() of " + numbers[i], x.load(), 1);
            Check.due("voters(0) of " + numbers[i], x.voters(0), due[i]);
        }
        dueFault(":0", 0);
        dueFault("5:0;:0", 4);
    }

    private static void oneToHundredVoters() {
        Check.sentence("Not allowed are also the first digit of a number that is not from 1 to 100 or has more than 3 digits");
        for (int number = 0; number <= 999; number++) {
            boolean fits = number >= 1 && number <= 100;
            String padded = Integer.toString(1000 + number).substring(1);
            RankedVotes x = new RankedVotes();
            dueFault(x, number + ":0", fits ? NONE : 0);
            dueFault(x, "  " + padded + ":0", fits ? NONE : 2);
            dueFault(x, "5:0;" + padded + ":0", fits ? NONE : 4);
        }
        dueFault("00:0", 0);
        dueFault("5:0; 0:1", 5);
        dueFault("5:0; 101:1", 5);
    }

    private static void moreThanThreeDigits() {
        Check.sentence("or has more than 3 digits");
        String[] numbers = {"0001", "0000", "1000", "0100", "00001", "1234", "9999", "12345678901234567890",
            "4294967297", "4294967301", "2147483649"};
        for (String number : numbers) {
            dueFault(number + ":0", 0);
            dueFault("  " + number + ":0", 2);
            dueFault("5:0; " + number + ":0", 5);
            // where the number stands last, its first digit is what is not allowed still
            dueFault(number, 0);
        }
        for (String number : new String[] {"0", "00", "000", "101", "999"}) {
            dueFault(number, 0);
            dueFault("5:0;" + number, 4);
        }
        for (String number : new String[] {"1", "01", "10", "100", "001"}) {
            dueFault(number, number.length());
            dueFault("5:0;" + number, 4 + number.length());
        }
    }

    private static void candidates() {
        Check.sentence("where a candidate is a digit:");
        for (int code = 0; code < 256; code++) {
            RankedVotes x = new RankedVotes();
            Votes.write(x, "5:");
            x.type(code);
            boolean fits = code >= '0' && code <= '4';
            Check.due("fault of '5:' and " + code, x.textFault(), fits ? NONE : code == ' ' ? 3 : 2);
            Check.due("load of '5:' and " + code, x.load(), fits ? 1 : BAD_STATE);
            Check.due("ballot(0) then", x.ballot(0), fits ? code - '0' + 1 : Votes.BAD_INDEX);
        }
        Check.sentence("a candidate that does not exist or has stood in the same group before");
        dueFault("5:5", 2);
        dueFault("5:9", 2);
        dueFault("5:0>5", 4);
        dueFault("5:0>1>2>3>5", 10);
        dueFault("5:00", 3);
        dueFault("5:12", 3);
    }

    private static void sameGroup() {
        Check.sentence("a candidate that does not exist or has stood in the same group before");
        for (int c = 0; c < 5; c++) {
            int other = (c + 1) % 5;
            dueFault("5:" + c + ">" + c, 4);
            dueFault("5:" + c + ">" + other + ">" + c, 6);
            // in another group it may stand again
            dueFault("5:" + c + ";5:" + c, NONE);
            dueFault("5:" + c + ">" + other + ";5:" + other + ">" + c, NONE);
            dueFault("5:" + c + ";5:" + other + ">" + other, 8);
        }
    }

    private static void oneToFiveCandidates() {
        Check.sentence("group = number \":\" candidate { \">\" candidate }");
        String ballot = "4";
        int digits = 5;
        for (int c = 3; c >= -1; c--) {
            RankedVotes x = new RankedVotes();
            dueFault(x, "5:" + ballot, NONE);
            Check.due("load() of " + ballot, x.load(), 1);
            Check.due("ballot(0) of " + ballot, x.ballot(0), digits);
            ballot += ">" + c;
            digits = digits * 10 + c + 1;
        }
        for (int c = 0; c <= 9; c++) {
            dueFault("5:4>3>2>1>0>" + c, 12);
        }
        dueFault("5:4>3>2>1>0>", 12);
        dueFault("5:4>3>2>1>0>  ", 14);
        dueFault("5:4>3>2>1>0>  0", 14);
        dueFault("5:4>3>2>1>0;5:0", NONE);
        dueFault("5:", 2);
        dueFault("5:;5:0", 2);
        dueFault("5:>0", 2);
        dueFault("5:0>>1", 4);
        dueFault("5:0>;", 4);
    }

    /** What is due for the first bytes of a text without a fault: where a group can end, there is none. */
    private static void endsTooEarly() {
        Check.sentence("or its length, if it ends too early");
        String text = " 12 : 0 > 4 ; 100:3>1>2>0>4 ;7: 2";
        for (int length = 0; length <= text.length(); length++) {
            String start = text.substring(0, length);
            String last = start.replace(" ", "");
            char end = last.isEmpty() ? ';' : last.charAt(last.length() - 1);
            boolean ballot = last.lastIndexOf(':') > last.lastIndexOf(';');
            boolean whole = ballot && end >= '0' && end <= '4';
            dueFault(start, whole ? NONE : length);
        }
    }

    private static void emptyText() {
        Check.sentence("or its length, if it ends too early (also if it is empty).");
        dueFault("", 0);
        dueFault(" ", 1);
        dueFault("   ", 3);
        Check.due("a text that was emptied", cleared().textFault(), 0);
    }

    private static RankedVotes cleared() {
        RankedVotes x = new RankedVotes();
        Votes.write(x, "5:0");
        x.clearText();
        return x;
    }

    private static void blanksAnywhere() {
        Check.sentence("Blanks (32) may stand anywhere except within a number.");
        String text = "12:0>4;100:3";
        for (int at = 0; at <= text.length(); at++) {
            boolean within = at == 1 || at == 8 || at == 9;
            for (String blanks : new String[] {" ", "   "}) {
                String written = text.substring(0, at) + blanks + text.substring(at);
                // the number ends before the blank, and the digit behind it is no ':'
                dueFault(written, within ? at + blanks.length() : NONE);
            }
        }
        dueFault(" 1 2 : 0", 3);
        dueFault(" 12 : 0 > 4 ; 100 : 3 ", NONE);
    }

    private static void blanksInNumbers() {
        Check.sentence("except within a number.");
        dueFault("1 0:0", 2);
        dueFault("1 00:0", 2);
        dueFault("10 0:0", 3);
        dueFault("0 1:0", 0);
        dueFault("00 1:0", 0);
        dueFault("1 :0", NONE);
        dueFault(" 1:0", NONE);
        dueFault("5:0;1 0:0", 6);
        // a number of three digits and one more behind a blank has not more than three
        dueFault("100 0:0", 4);
        dueFault("100 0", 4);
        dueFault("101 0", 0);
    }

    private static void firstFault() {
        Check.sentence("The fault of the text is the position, from 0, of the first byte that is not allowed at its place");
        dueFault("x", 0);
        dueFault("5x", 1);
        dueFault("5:x", 2);
        dueFault("5:0x", 3);
        dueFault("5:0>x", 4);
        dueFault("5:0;x", 4);
        dueFault("5:0;5x", 5);
        // of several faults the first one
        dueFault("0:5>5;101:7", 0);
        dueFault("1:5>5;101:7", 2);
        dueFault("1:4>4;101:7", 4);
        dueFault("1:4>3;101:7", 6);
        dueFault("1:4>3;100:7", 10);
        dueFault("1:4>3;100:2;;", 12);
        dueFault("1:4>3;100:2:", 11);
        dueFault(";1:4", 0);
        dueFault("1:4;", 4);
        dueFault("1:4; ;1:4", 5);
    }

    private static void otherBytes() {
        Check.sentence("the position, from 0, of the first byte that is not allowed at its place");
        String[] before = {"", " ", "5", "5 ", "5: ", "5:0", "5:0 ", "5:0>", "5:0> ", "5:0;", "5:0; ", "100"};
        String[] allowed = {"123456789", "123456789", "0123456789:", ":", "01234", ">;", ">;", "1234", "1234",
            "123456789", "123456789", ":"};
        for (int i = 0; i < before.length; i++) {
            for (int code = 0; code < 256; code++) {
                RankedVotes x = new RankedVotes();
                Votes.write(x, before[i]);
                x.type(code);
                boolean fits = code == ' ' || allowed[i].indexOf(code) >= 0;
                boolean ended = before[i].trim().endsWith("5:0") && code == ' '
                    || (before[i].trim().endsWith(">") || before[i].trim().endsWith(":")) && code != ' ';
                int length = before[i].length();
                // a fourth digit is a fault of the first one
                boolean fourth = i == 11 && code >= '0' && code <= '9';
                int due = fourth ? 0 : !fits ? length : ended ? NONE : length + 1;
                Check.due("fault of '" + before[i] + "' and " + code, x.textFault(), due);
            }
        }
    }

    private static void roomForGroups() {
        Check.sentence("and the first byte of a group for which there is no room (a 21st one).");
        String text = "5:0;5:0;5:0;5:0;5:0;5:0;5:0;5:0;5:0;5:0;5:0;5:0;5:0;5:0;5:0;5:0;5:0;5:0;5:0;5:0;5:0";
        for (int there = 0; there <= 20; there++) {
            RankedVotes x = new RankedVotes();
            for (int g = 0; g < there; g++) {
                x.addGroup(1, 1);
            }
            int room = 20 - there;
            dueFault(x, text, room * 4);
            Check.due(there + " groups: load()", x.load(), BAD_STATE);
            Check.due(there + " groups: groupCount()", x.groupCount(), there);
            if (room > 0) {
                dueFault(x, text.substring(0, room * 4), room * 4);
                dueFault(x, text.substring(0, room * 4 - 1), NONE);
                Check.due(there + " groups: load() of " + room, x.load(), 20);
                Check.due(there + " groups: voters(19)", x.voters(19), 5);
            }
            Check.due("full: textFault()", x.textFault(), 0);
            Check.due("full: load()", x.load(), BAD_STATE);
        }
    }

    private static void roomForTheLast() {
        Check.sentence("and the first byte of a group for which there is no room (a 21st one).");
        RankedVotes x = new RankedVotes();
        for (int g = 0; g < 19; g++) {
            x.addGroup(1, 1);
        }
        // blanks before it are no bytes of the group
        dueFault(x, "5:0;  5:0", 6);
        dueFault(x, "5:0;  ", 6);
        dueFault(x, "5:0;  x", 6);
        // a fault before it is the first one
        dueFault(x, "5:0>0;5:0", 4);
        dueFault(x, "5:0", NONE);
        // the same if all 20 are those of the text
        String twenty = "5:0" + ";5:0".repeat(19);
        dueFault(twenty + ";  5:0", 82);
        dueFault(twenty + ";  ", 82);
        dueFault(twenty + "  ", NONE);
        x.addGroup(1, 1);
        dueFault(x, "  5:0", 2);
        dueFault(x, "", 0);
        dueFault(x, "0:0", 0);
        // there is room again
        Votes.write(x, "5:0");
        Check.due("20 groups: textFault()", x.textFault(), 0);
        x.removeGroup(3);
        Check.due("19 groups: textFault()", x.textFault(), NONE);
        x.undo();
        Check.due("20 groups again: textFault()", x.textFault(), 0);
    }

    private static void loadAddsInOrder() {
        Check.sentence("Adds the groups of the text, in their order. Recorded, as one call.");
        RankedVotes x = Votes.election(2, 8, 21);
        Votes.write(x, "1:0;100:4>3>2>1>0; 50:1>4");
        Check.due("load()", x.load(), 4);
        Check.due("the groups", Votes.state(x), "29, 4 groups: 8x21 1x1 100x54321 50x25");
        Check.due("load() again", x.load(), 7);
        Check.due("the groups", Votes.state(x),
            "29, 7 groups: 8x21 1x1 100x54321 50x25 1x1 100x54321 50x25");
        Check.due("undo()", x.undo(), 3);
        Check.due("undo()", x.undo(), 2);
        Check.due("the groups", Votes.state(x), "29, 1 groups: 8x21");
        Check.due("the text is there still", x.textFault(), NONE);
        Check.due("clearText()", x.clearText(), 25);
        // 20 groups are one state of the history
        RankedVotes y = new RankedVotes();
        Votes.write(y, "5:0" + ";5:0".repeat(19));
        Check.due("load() of 20", y.load(), 20);
        Check.due("undo() of 20", y.undo(), 0);
        Check.due("groupCount() then", y.groupCount(), 0);
    }

    private static void loadIsRefused() {
        Check.sentence("Returns the number of groups then; BAD_STATE if the text has a fault.");
        String[] texts = {"", " ", "5", "5:", "5:0;", "5:0;0:0", "5:0;5:0>0", "5:0;5:5", "x", "5:0;5:0 5"};
        for (String text : texts) {
            RankedVotes x = Votes.election(0, 8, 21);
            Votes.write(x, text);
            Check.due("load() of '" + text + "'", x.load(), BAD_STATE);
            Check.due("the groups then", Votes.state(x), "31, 1 groups: 8x21");
            Check.due("clearText() then", x.clearText(), text.length());
            Check.due("undo() of addGroup", x.undo(), 0);
        }
    }
}
