import java.util.regex.Matcher;
import java.util.regex.Pattern;

/** The bounds of texts, sentence by sentence; a regular expression tells the faults by a way of its own. */
public final class TextBoundsTest {
    private static final String COMMAND = "(w[0-9][0-9]?=[0-9]|[op][0-9]@[0-9][0-9]?|m[0-9]>[0-9][0-9]?"
            + "|s[0-9][+-][0-9][0-9]?|b|c[0-9]|v[+-][0-9])";
    private static final Pattern TEXT = Pattern.compile(COMMAND + "(;" + COMMAND + ")*");
    private static final String[] FORMS = {"w1=2", "w01=2", "o1@2", "o1@02", "p1@2", "p1@02", "m0>2", "m0>02", "s0+2",
        "s0-02", "b", "c0", "v+2", "v-2"};
    private static final String SIGNS = "wopmsbcv0123456789=@>+-;?";

    private static long seed = 20261120;

    public static void main(String[] args) {
        oneCommandOrMore();
        eachFormTold();
        digits();
        eachCharacterBehindEachBeginning();
        shortTexts();
        changedTexts();
        endsTooEarly();
        latestText();
        carriedOutAsMethods();
        allOrNone();
        fullBuffer();
        emptyAfterwards();
        Check.finish();
    }

    private static int below(int bound) {
        seed = seed * 6364136223846793005L + 1442695040888963407L;
        return (int) ((seed >>> 33) % bound);
    }

    /** The fault position by the document's words, or -1. */
    private static int faultOf(String text) {
        if (TEXT.matcher(text).matches()) {
            return -1;
        }
        for (int index = 0; index < text.length(); index++) {
            Matcher matcher = TEXT.matcher(text.substring(0, index + 1));
            if (!matcher.matches() && !matcher.hitEnd()) {
                return index;
            }
        }
        return text.length();
    }

    /** Carries a text out on a canyon in which much can be done; what it throws and the fault are as due. */
    private static void dueFault(String text) {
        EchoCanyon canyon = new EchoCanyon();
        Check.type(canyon, text);
        boolean isFault = false;
        try {
            canyon.commands();
        } catch (IllegalArgumentException thrown) {
            isFault = true;
        } catch (UnsupportedOperationException thrown) {
            isFault = false;
        }
        int due = faultOf(text);
        if (isFault != (due != -1) || due != canyon.faultPosition()) {
            Check.fail("text " + text + ": fault " + canyon.faultPosition() + ", due is " + due);
        }
        Check.due("buffer", 0, canyon.account(11));
    }

    /** "The text buffer holds one or more commands with ";" between them: "w", a place, "=" and a height tells a wall;
     * "o", a team, "@" and a place buys one; "p", a team, "@" and a place lets a player come; "m", a player, ">" and a
     * place moves one; "s", a player, "+" or "-", and a loudness shouts to greater or to lesser numbers; "b" is a beat;
     * "c" and a player catches; "v", "+" or "-", and a digit tells the wind." */
    private static void oneCommandOrMore() {
        EchoCanyon canyon = new EchoCanyon();
        dueFaultAt(canyon, "", 0);
        Check.due("one", 1, Check.run(canyon, "v+1"));
        Check.due("two", 2, Check.run(canyon, "v-1;v+1"));
        dueFaultAt(canyon, ";", 0);
        dueFaultAt(canyon, ";v-1", 0);
        dueFaultAt(canyon, "v-1;", 4);
        dueFaultAt(canyon, "v-1;;v+1", 4);
        dueFaultAt(canyon, "v-1v+1", 3);
        Check.due("none of these", 1, canyon.account(4));
    }

    private static void dueFaultAt(EchoCanyon canyon, String text, int position) {
        Check.raisesOnly("text " + text, IllegalArgumentException.class, () -> Check.run(canyon, text));
        Check.due("fault in " + text, position, canyon.faultPosition());
    }

    /** "The text buffer holds one or more commands with ";" between them: "w", a place, "=" and a height tells a wall;
     * "o", a team, "@" and a place buys one; "p", a team, "@" and a place lets a player come; "m", a player, ">" and a
     * place moves one; "s", a player, "+" or "-", and a loudness shouts to greater or to lesser numbers; "b" is a beat;
     * "c" and a player catches; "v", "+" or "-", and a digit tells the wind." */
    private static void eachFormTold() {
        EchoCanyon canyon = new EchoCanyon();
        Check.run(canyon, "w9=9");
        Check.due("w", 9, canyon.wallOf(9, false));
        Check.run(canyon, "o2@9");
        Check.due("o", 2, canyon.wallOf(9, true));
        Check.run(canyon, "p1@7");
        Check.due("p", 1, canyon.playerOf(0, 0));
        Check.run(canyon, "m0>8");
        Check.due("m", 8, canyon.playerOf(0, 1));
        Check.run(canyon, "s0+3");
        Check.due("s+", 1, canyon.soundOf(0, 4));
        Check.run(canyon, "s0-3");
        Check.due("s-", 0, canyon.soundOf(1, 4));
        Check.run(canyon, "b");
        Check.due("b", 1, canyon.account(5));
        Check.run(canyon, "c0");
        Check.due("c", 1, canyon.playerOf(0, 4));
        Check.run(canyon, "v+2");
        Check.due("v+", 2, canyon.account(4));
        Check.run(canyon, "v-2");
        Check.due("v-", -2, canyon.account(4));
    }

    /** "Places and loudnesses have one or two digits, all else one." */
    private static void digits() {
        String[] right = {"w0=0", "w00=0", "w99=9", "o9@0", "o9@99", "p9@0", "p9@99", "m9>0", "m9>99", "s9+0", "s9-99",
            "c9", "v+9", "v-9"};
        for (String text : right) {
            dueFault(text);
            Check.due(text, -1, faultOf(text));
        }
        EchoCanyon canyon = new EchoCanyon();
        String[] wrong = {"w=1", "w100=1", "w1=", "w1=10", "o@1", "o10@1", "o1@", "o1@100", "p@1", "p10@1", "p1@",
            "p1@100", "m>1", "m10>1", "m1>", "m1>100", "s+1", "s10+1", "s1+", "s1+100", "c", "c10", "v+", "v+10"};
        int[] positions = {1, 3, 3, 4, 1, 2, 3, 5, 1, 2, 3, 5, 1, 2, 3, 5, 1, 2, 3, 5, 1, 2, 2, 3};
        for (int index = 0; index < wrong.length; index++) {
            dueFaultAt(canyon, wrong[index], positions[index]);
        }
        Check.due("two digits as one", 3, Check.run(canyon, "w05=1;p0@06;s0+03"));
        Check.due("wall", 1, canyon.wallOf(5, false));
        Check.due("place", 6, canyon.playerOf(0, 1));
        Check.due("loudness", 3, canyon.soundOf(0, 1));
        Check.due("the greatest", 2, Check.run(canyon, "w15=9;s0-20"));
        Check.due("wall", 9, canyon.wallOf(15, false));
        Check.due("loudness", 20, canyon.soundOf(1, 1));
    }

    /** "The fault position of a text is the index of its first character that cannot continue such a text, or the length
     * of the text if it ends too early." */
    private static void eachCharacterBehindEachBeginning() {
        for (String form : FORMS) {
            for (int length = 0; length <= form.length(); length++) {
                for (int character = 0; character < 300; character++) {
                    dueFault(form.substring(0, length) + (char) character);
                }
                dueFault("b;" + form.substring(0, length) + '\uFFFF');
                dueFault(form + ";" + form.substring(0, length) + '\u0660');
            }
        }
    }

    /** "The fault position of a text is the index of its first character that cannot continue such a text, or the length
     * of the text if it ends too early." */
    private static void shortTexts() {
        for (int length = 0; length <= 3; length++) {
            int count = 1;
            for (int index = 0; index < length; index++) {
                count *= SIGNS.length();
            }
            for (int number = 0; number < count; number++) {
                StringBuilder text = new StringBuilder();
                int rest = number;
                for (int index = 0; index < length; index++) {
                    text.append(SIGNS.charAt(rest % SIGNS.length()));
                    rest /= SIGNS.length();
                }
                dueFault(text.toString());
            }
        }
    }

    /** "The fault position of a text is the index of its first character that cannot continue such a text, or the length
     * of the text if it ends too early." */
    private static void changedTexts() {
        for (int run = 0; run < 20000; run++) {
            StringBuilder text = new StringBuilder(FORMS[below(FORMS.length)]);
            for (int count = below(9); count > 0; count--) {
                text.append(';').append(FORMS[below(FORMS.length)]);
            }
            int at = below(text.length());
            char sign = SIGNS.charAt(below(SIGNS.length()));
            switch (below(4)) {
                case 0:
                    text.setCharAt(at, sign);
                    break;
                case 1:
                    text.insert(at, sign);
                    break;
                case 2:
                    text.deleteCharAt(at);
                    break;
                default:
                    break;
            }
            dueFault(text.substring(0, Math.min(60, text.length())));
        }
    }

    /** "The fault position of a text is the index of its first character that cannot continue such a text, or the length
     * of the text if it ends too early." */
    private static void endsTooEarly() {
        EchoCanyon canyon = new EchoCanyon();
        StringBuilder text = new StringBuilder();
        for (int count = 0; count < 20; count++) {
            text.append("v+");
            dueFaultAt(canyon, text.toString(), text.length());
            text.append("1;");
            if (text.length() < 60) {
                dueFaultAt(canyon, text.toString(), text.length());
            }
            if (text.length() > 56) {
                break;
            }
        }
        dueFaultAt(canyon, "b;".repeat(30), 60);
        dueFaultAt(canyon, "b;".repeat(29) + "bb", 59);
        dueFaultAt(canyon, "?" + "b;".repeat(29) + "b", 0);
    }

    /** 32: "Returns the fault position, or -1 if that text had no fault or there was no such call." */
    private static void latestText() {
        EchoCanyon canyon = new EchoCanyon();
        Check.due("no call", -1, canyon.faultPosition());
        Check.type(canyon, "x");
        Check.due("still no call", -1, canyon.faultPosition());
        Check.raisesOnly("fault", IllegalArgumentException.class, () -> canyon.commands());
        Check.due("at once", 0, canyon.faultPosition());
        Check.type(canyon, "v+1");
        Check.due("until the next call", 0, canyon.faultPosition());
        canyon.commands();
        Check.due("right", -1, canyon.faultPosition());
        dueFaultAt(canyon, "v+", 2);
        Check.raisesOnly("refused", UnsupportedOperationException.class, () -> Check.run(canyon, "v+1"));
        Check.due("refused, without a fault", -1, canyon.faultPosition());
        dueFaultAt(canyon, "", 0);
        canyon.undo();
        Check.due("stays over undo", 0, canyon.faultPosition());
        canyon.save();
        canyon.restore();
        Check.due("stays over restore", 0, canyon.faultPosition());
    }

    /** "The commands are carried out as the methods would, all of them or none." */
    private static void carriedOutAsMethods() {
        EchoCanyon canyon = new EchoCanyon();
        String before = Check.undoableOf(canyon);
        String[] texts = {"b", "w5=1;b", "w5=1;w6=1;p0@7;m0>8;b", "w5=1;p0@6;s0-3;b;c0;c0",
            "v+1;v+0;v+1;v+0;v+1;v+0;v+1;v+0;v+1;v+0;v+1;v+0;v+1;v+0;v+0", "w1=1;o0@1;o0@1"};
        String[] reasons = {"11/0/0", "11/0/1", "11/0/4", "10/0/5", "6/0/14", "6/0/2"};
        for (int index = 0; index < texts.length; index++) {
            String text = texts[index];
            Check.raisesOnly(text, UnsupportedOperationException.class, () -> Check.run(canyon, text));
            Check.due(text + ", reason", reasons[index], Check.reasonOf(canyon));
            Check.due(text + ", state", before, Check.undoableOf(canyon));
            Check.due(text + ", no change", 0, canyon.account(10));
        }
        Check.due("all", 5, Check.run(canyon, "w5=1;p0@6;s0-3;b;c0"));
        Check.due("one change", 1, canyon.account(10));
        Check.due("its points", 11, canyon.teamOf(0, 0));
    }

    /** 31: "Carries out the commands in the text buffer, one after the other; if one is refused, none is carried out. The
     * buffer is empty afterwards, also if an exception is thrown." */
    private static void allOrNone() {
        for (int refused = 0; refused < 8; refused++) {
            EchoCanyon canyon = new EchoCanyon();
            canyon.wall(12, 2);
            String before = Check.undoableOf(canyon);
            StringBuilder text = new StringBuilder();
            for (int index = 0; index < 8; index++) {
                text.append(index == 0 ? "" : ";").append(index == refused ? "w12=2" : "w" + index + "=1");
            }
            Check.raisesOnly("refused", UnsupportedOperationException.class,
                    () -> Check.run(canyon, text.toString()));
            Check.due("the index", "6/2/" + refused, Check.reasonOf(canyon));
            Check.due("none of the eight", before, Check.undoableOf(canyon));
            Check.due("buffer", 0, canyon.account(11));
            Check.due("changes", 1, canyon.account(10));
        }
    }

    /** 30: "Throws `IllegalStateException` if the buffer contains 60 characters" */
    private static void fullBuffer() {
        EchoCanyon canyon = new EchoCanyon();
        String text = "w1=1;" + "v+1;v-1;".repeat(7);
        Check.due("without the last ';'", 61, text.length());
        Check.type(canyon, text.substring(0, 59));
        Check.due("the sixtieth", 60, canyon.append('1'));
        Check.raises("the next", canyon, IllegalStateException.class, () -> canyon.append(';'));
        Check.raises("the next, whatever it is", canyon, IllegalStateException.class, () -> canyon.append((char) 0));
        Check.due("sixty characters", 15, canyon.commands());
        Check.due("wall", 1, canyon.wallOf(1, false));
        Check.due("wind", -1, canyon.account(4));
        Check.due("from the start again", 1, canyon.append('b'));
    }

    /** 31: "Throws `IllegalArgumentException` if the text has a fault" */
    private static void emptyAfterwards() {
        EchoCanyon canyon = new EchoCanyon();
        Check.type(canyon, "w1=1;w2=");
        Check.raisesOnly("fault", IllegalArgumentException.class, () -> canyon.commands());
        Check.due("empty by a fault", 0, canyon.account(11));
        Check.due("nothing carried out", 0, canyon.account(0));
        Check.raisesOnly("nothing left of it", IllegalArgumentException.class, () -> canyon.commands());
        Check.due("the empty text", 0, canyon.faultPosition());
        Check.type(canyon, "w1=1;b?");
        Check.raisesOnly("fault ahead of refusal", IllegalArgumentException.class, () -> canyon.commands());
        Check.due("no reason by a fault", "none", Check.reasonOf(canyon));
        Check.raisesOnly("refused", UnsupportedOperationException.class, () -> Check.run(canyon, "b"));
        Check.due("empty by a refusal", 0, canyon.account(11));
        Check.run(canyon, "w1=1");
        Check.due("empty by success", 0, canyon.account(11));
    }
}
