/** Promises 38 to 41: the text. */
public final class TextTest {
    private static final int NONE = Votes.NONE, BAD_VALUE = Votes.BAD_VALUE, BAD_STATE = Votes.BAD_STATE,
        FULL = Votes.FULL;

    public static void main(String[] args) {
        promise38Type();
        promise39ClearText();
        promise40Groups();
        promise40Numbers();
        promise40Candidates();
        promise40Blanks();
        promise40Room();
        promise40EveryByte();
        promise41Load();
        promise41Room();
        Check.finish();
    }

    private static void write(RankedVotes x, String text) {
        Votes.write(x, text);
    }

    private static void dueFault(String text, int due) {
        RankedVotes x = new RankedVotes();
        write(x, text);
        Check.due("fault of '" + text + "'", x.textFault(), due);
        Check.due("fault of '" + text + "' again", x.textFault(), due);
        boolean faulty = due != NONE;
        int groups = text.split(";").length;
        Check.due("load of '" + text + "'", x.load(), faulty ? BAD_STATE : groups);
        Check.due("groups of '" + text + "'", x.groupCount(), faulty ? 0 : groups);
        Check.due("undo after '" + text + "'", x.undo(), faulty ? BAD_STATE : 0);
    }

    private static void promise38Type() {
        RankedVotes x = new RankedVotes();
        for (int code : new int[] {-1, 256, Integer.MIN_VALUE, Integer.MAX_VALUE}) {
            Check.due("type(" + code + ")", x.type(code), BAD_VALUE);
        }
        for (int i = 0; i < 100; i++) {
            Check.due("type as number " + i, x.type(i % 2 == 0 ? 0 : 255), i + 1);
        }
        Check.due("type(49) as a 101st", x.type(49), FULL);
        Check.due("type(256) as a 101st", x.type(256), BAD_VALUE);
        Check.due("clearText() then", x.clearText(), 100);
        Check.due("type(49) again", x.type(49), 1);
    }

    private static void promise39ClearText() {
        RankedVotes x = new RankedVotes();
        Check.due("clearText() of none", x.clearText(), 0);
        write(x, "5:0");
        Check.due("clearText()", x.clearText(), 3);
        Check.due("clearText() again", x.clearText(), 0);
        Check.due("textFault() then", x.textFault(), 0);
        write(x, "7:");
        // what was there before is not there any more
        Check.due("textFault() of a shorter one", x.textFault(), 2);
    }

    private static void promise40Groups() {
        dueFault("", 0);
        dueFault("5:0", NONE);
        dueFault("5:0;6:1>2", NONE);
        dueFault("5", 1);
        dueFault("5:", 2);
        dueFault("5:0>", 4);
        dueFault("5:0;", 4);
        dueFault("5:0;6", 5);
        dueFault("5:0;6:", 6);
        dueFault(";", 0);
        dueFault(":", 0);
        dueFault("5;0", 1);
        dueFault("5>0", 1);
        dueFault("5:;", 2);
        dueFault("5:>", 2);
        dueFault("5::0", 2);
        dueFault("5:0;;5:0", 4);
        dueFault("5:0>;5:0", 4);
        dueFault("5:0:1", 3);
        dueFault("5:0,1", 3);
        dueFault("-5:0", 0);
        dueFault("+5:0", 0);
        dueFault("x", 0);
    }

    private static void promise40Numbers() {
        dueFault("1:0", NONE);
        dueFault("100:0", NONE);
        dueFault("001:0", NONE);
        dueFault("01:0", NONE);
        dueFault("0:0", 0);
        dueFault("00:0", 0);
        dueFault("000:0", 0);
        dueFault("101:0", 0);
        dueFault("999:0", 0);
        dueFault("0001:0", 0);
        dueFault("1000:0", 0);
        dueFault("4294967297:0", 0);
        dueFault("0", 0);
        dueFault("101", 0);
        dueFault("200x", 0);
        dueFault("10", 2);
        dueFault("10x", 2);
        dueFault("3:1;0:1", 4);
        dueFault("3:1; 101:1", 5);
        dueFault("3:1;1000", 4);
    }

    private static void promise40Candidates() {
        dueFault("5:0>1>2>3>4", NONE);
        dueFault("5:4>3>2>1>0", NONE);
        dueFault("5:4;5:4", NONE);
        dueFault("5:5", 2);
        dueFault("5:9", 2);
        dueFault("5:/", 2);
        dueFault("5:0>5", 4);
        dueFault("5:0>0", 4);
        dueFault("5:0>1>0", 6);
        dueFault("5:0>1>2>3>4>", 12);
        dueFault("5:0>1>2>3>4>0", 12);
        dueFault("5:0>1>2>3>4>5", 12);
        dueFault("5:01", 3);
        dueFault("5:0 1", 4);
    }

    private static void promise40Blanks() {
        dueFault("   ", 3);
        dueFault("  5  :  0  >  1  ;  6  :  2  ", NONE);
        dueFault("5: 0", NONE);
        dueFault("1 0:0", 2);
        dueFault("0 1:0", 0);
        dueFault(" 1000:0", 1);
        dueFault(" 5 ", 3);
        dueFault("5:0 ; ", 6);
        dueFault("5:0; ;", 5);
        dueFault("5:\t0", 2);
        dueFault("5:0\n", 3);
        dueFault("5:0" + (char) 160, 3);
        dueFault("5:0" + (char) 0, 3);
    }

    private static void promise40Room() {
        RankedVotes x = new RankedVotes();
        for (int g = 0; g < 18; g++) {
            x.addGroup(1, 1);
        }
        write(x, "1:0;1:1;1:2");
        Check.due("18 and 3: textFault()", x.textFault(), 8);
        write(x, "1:0 ; 1:1 ;  1:2");
        Check.due("18 and 3 with blanks: textFault()", x.textFault(), 13);
        write(x, "1:0;1:1;");
        Check.due("18 and 2, then nothing: textFault()", x.textFault(), 8);
        write(x, "1:0;1:1");
        Check.due("18 and 2: textFault()", x.textFault(), NONE);
        x.addGroup(1, 1);
        Check.due("19 and 2: textFault()", x.textFault(), 4);
        x.addGroup(1, 1);
        Check.due("20 and 2: textFault()", x.textFault(), 0);
        write(x, "  7:7");
        Check.due("20 and a wrong one: textFault()", x.textFault(), 2);
        write(x, "  ");
        Check.due("20 and blanks: textFault()", x.textFault(), 2);
        write(x, "1:0;1:1");
        x.removeGroup(0);
        x.removeGroup(0);
        Check.due("18 and 2 again: textFault()", x.textFault(), NONE);
    }

    /** The bytes that are allowed at each place of "5:0>1;" are just these. */
    private static void promise40EveryByte() {
        String[] before = {"", "5", "5:", "5:0", "5:0>", "5:0>1;"};
        String[] allowed = {"123456789", ":0123456789", "01234", ">;", "1234", "123456789"};
        for (int i = 0; i < before.length; i++) {
            for (int code = 0; code < 256; code++) {
                RankedVotes x = new RankedVotes();
                write(x, before[i]);
                x.type(code);
                boolean fits = code == 32 || allowed[i].indexOf(code) >= 0;
                int length = before[i].length();
                int due = !fits ? length : i == 2 && code != 32 || i == 4 && code != 32 ? NONE : length + 1;
                if (i == 3 && code == 32) {
                    due = NONE;
                }
                Check.due("fault of '" + before[i] + "' and " + code, x.textFault(), due);
            }
        }
    }

    private static void promise41Load() {
        RankedVotes x = new RankedVotes();
        x.addGroup(9, 54);
        write(x, " 12 : 4 > 0 ; 007:2;100:1>0>3>2>4");
        Check.due("load()", x.load(), 4);
        int[] voters = {9, 12, 7, 100};
        int[] ballots = {54, 51, 3, 21435};
        for (int g = 0; g < 4; g++) {
            Check.due("voters(" + g + ")", x.voters(g), voters[g]);
            Check.due("ballot(" + g + ")", x.ballot(g), ballots[g]);
        }
        Check.due("allVoters()", x.allVoters(), 128);
        Check.due("load() again", x.load(), 7);
        Check.due("ballot(6)", x.ballot(6), 21435);
        Check.due("undo()", x.undo(), 2);
        Check.due("undo()", x.undo(), 1);
        Check.due("groupCount()", x.groupCount(), 1);
        Check.due("clearText()", x.clearText(), 33);
        Check.due("load() of no text", x.load(), BAD_STATE);
        write(x, "5:1;5:1>1");
        Check.due("load() with a fault at the end", x.load(), BAD_STATE);
        Check.due("groupCount()", x.groupCount(), 1);
        Check.due("undo()", x.undo(), 0);
    }

    private static void promise41Room() {
        RankedVotes x = new RankedVotes();
        StringBuilder text = new StringBuilder("9:4");
        for (int g = 1; g < 20; g++) {
            text.append(";9:").append(g % 5);
        }
        write(x, text.toString());
        Check.due("20 groups: textFault()", x.textFault(), NONE);
        Check.due("20 groups: load()", x.load(), 20);
        Check.due("20 groups: ballot(19)", x.ballot(19), 5);
        Check.due("20 groups: load() again", x.load(), BAD_STATE);
        Check.due("20 groups: textFault()", x.textFault(), 0);
        Check.due("20 groups: undo()", x.undo(), 0);
        write(x, text + ";9:0");
        Check.due("21 groups: textFault()", x.textFault(), 80);
        Check.due("21 groups: load()", x.load(), BAD_STATE);
        Check.due("21 groups: groupCount()", x.groupCount(), 0);
    }
}
