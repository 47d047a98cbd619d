import java.math.BigInteger;

/** The sentences under "Setup text": grammar, ranges, and which error is the first one. */
final class SetupTest {
    private static final int SYNTAX = LampRelay.SYNTAX_ERROR;
    private static final int RANGE = LampRelay.OUT_OF_RANGE;
    private static final int REPEATED = LampRelay.REPEATED;
    private static final int MANY = LampRelay.TOO_MANY;
    private static final String[] TOKENS = {"relay", "4", "3", ";", "channel", "1", "7", "5", "9", ";", "keeper",
        "0", "3", "4", ";", "mist", "1", "2", "6", ";", "message", "1", "8", "abc", ";"};

    private SetupTest() {
    }

    static void run() {
        allNumbers();
        spacesAroundTokens();
        wrongTokens();
        textsThatEndTooEarly();
        allBytes();
        fullBuffer();
        asMuchAsCanBeTold();
        firstOfTwoErrors();
        beyondWhatCanBeTold();
        beforeTheFirstLoad();
    }

    private static void due(String text, int answer, int offset) {
        LampRelay relay = new LampRelay();
        Check.due("load of '" + text + "'", answer, Check.load(relay, text));
        Check.due("errorOffset of '" + text + "'", offset, relay.errorOffset());
        Check.due("messages behind '" + text + "'", Math.max(answer, 0), relay.state(1));
    }

    private static void allNumbers() {
        String setup = "relay 4 3; ";
        number("relay ", " 3;", 1, 8, 0);
        number("relay 4 ", ";", 1, 9, 0);
        number(setup + "channel ", " 0 0 0;", 0, 1, 0);
        number(setup + "channel 0 ", " 0 0;", 0, 9, 0);
        number(setup + "channel 0 0 ", " 0;", 0, 23, 0);
        number(setup + "channel 0 0 0 ", ";", 0, 23, 0);
        number(setup + "keeper ", " 0 0;", 0, 1, 0);
        number(setup + "keeper 0 ", " 0;", 0, 9999, 0);
        number(setup + "keeper 0 0 ", ";", 0, 25, 0);
        number(setup + "mist ", " 9999 0;", 0, 9999, 0);
        number(setup + "mist 0 ", " 0;", 0, 9999, 0);
        number(setup + "mist 77 ", " 0;", 77, 9999, 0);
        number(setup + "mist 9999 ", " 0;", 9999, 9999, 0);
        number(setup + "mist 0 0 ", ";", 0, 9, 0);
        number(setup + "message ", " 0 a;", 0, 1, 1);
        number(setup + "message 0 ", " a;", 0, 9, 1);
    }

    /** A number of this place of the text, inside and outside of its range, and far beyond all Java numbers. */
    private static void number(String before, String after, int least, int greatest, int messages) {
        due(before + least + after, messages, -1);
        due(before + greatest + after, messages, -1);
        due(before + "0".repeat(400) + least + after, messages, -1);
        due(before + "0" + greatest + after, messages, -1);
        int at = before.length();
        due(before + (greatest + 1) + after, RANGE, at);
        due(before + "00" + (greatest + 1) + after, RANGE, at);
        if (least > 0) {
            due(before + (least - 1) + after, RANGE, at);
        }
        for (int bits : new int[] {8, 16, 31, 32, 33, 63, 64, 65, 128}) {
            BigInteger number = BigInteger.TWO.pow(bits).add(BigInteger.valueOf(least));
            boolean isAllowed = number.compareTo(BigInteger.valueOf(greatest)) <= 0;
            due(before + number + after, isAllowed ? messages : RANGE, isAllowed ? -1 : at);
        }
        due(before + BigInteger.TWO.pow(64).add(BigInteger.valueOf(greatest)) + after, RANGE, at);
        due(before + "1" + "0".repeat(400) + after, RANGE, at);
        due(before + "9".repeat(400) + after, RANGE, at);
        for (String wrong : new String[] {"x", "-1", "+1", ";", ".5", "!", "\t1"}) {
            due(before + wrong + after, SYNTAX, at);
        }
        due(before + " ", SYNTAX, at + 1);
        due(before + "x", SYNTAX, at);
    }

    /** "may precede any token and may follow the last one; a word and a number side by side need none" */
    private static void spacesAroundTokens() {
        String[] texts = {join("", " "), join("   ", ""), join(" ", " ") + "     ",
            "relay4 3;channel1 7 5 9;keeper0 3 4;mist1 2 6;message1 8abc;"};
        String view = Check.view(Check.loaded("relay 4 3;channel 1 7 5 9;keeper 0 3 4;mist 1 2 6;message 1 8 abc;"));
        for (String text : texts) {
            Check.dueText("'" + text + "'", view, Check.view(Check.loaded(text)));
        }
        due("relay 43;", RANGE, 6);
        due("relay 4 3;channel 1 75 9;", RANGE, 20);
        due("relay 4 3;messages 0 0 a;", SYNTAX, 10);
        due("relay 4 3;me ssage 0 0 a;", SYNTAX, 10);
        due("relay 4 3;message 0 0 a b;", SYNTAX, 24);
        due("relay 4 3;message 0 0 a0;", SYNTAX, 23);
    }

    private static String join(String before, String behind) {
        StringBuilder text = new StringBuilder();
        for (String token : TOKENS) {
            text.append(before).append(token).append(behind);
        }
        return text.toString();
    }

    /** "a token or byte that the grammar does not allow here, at its first byte", in place of each token. */
    private static void wrongTokens() {
        for (int wrong = 0; wrong < TOKENS.length; wrong++) {
            for (String token : new String[] {"!", ",", "relay", "messages", "A", "7", ";", "#5"}) {
                String is = TOKENS[wrong];
                boolean fits = token.equals(is) || token.equals("7") && is.charAt(0) <= '9'
                        || is.equals("abc") && token.charAt(0) >= 'a';
                if (!fits) {
                    StringBuilder text = new StringBuilder();
                    int at = 0;
                    for (int i = 0; i < TOKENS.length; i++) {
                        at = i == wrong ? text.length() + 2 : at;
                        text.append("  ").append(i == wrong ? token : TOKENS[i]);
                    }
                    due(text.toString(), SYNTAX, at);
                }
            }
        }
    }

    /** "the end of the text, at its length, if the text ends too early"; a keyword that is cut is a wrong token. */
    private static void textsThatEndTooEarly() {
        String text = "relay 4 3;channel 0 5 6 7;keeper 1 2 3;mist 4 5 6;message 0 7 abc;";
        int[] keywords = {0, 5, 10, 17, 26, 32, 39, 43, 50, 57};
        for (int length = 0; length < text.length(); length++) {
            int at = length;
            for (int i = 0; i < keywords.length; i += 2) {
                at = length > keywords[i] && length < keywords[i + 1] ? keywords[i] : at;
            }
            boolean isWhole = length > 0 && text.charAt(length - 1) == ';';
            due(text.substring(0, length), isWhole ? 0 : SYNTAX, isWhole ? -1 : at);
            boolean isCutKeyword = at < length;
            due(text.substring(0, length) + "  ", isWhole ? 0 : SYNTAX, isWhole ? -1 : isCutKeyword ? at : length + 2);
        }
        due(text, 1, -1);
    }

    /** "No other byte separates tokens." */
    private static void allBytes() {
        for (int sign = 0; sign < 256; sign++) {
            char c = (char) sign;
            boolean isSpace = c == ' ';
            boolean isDigit = c >= '0' && c <= '9';
            boolean isLetter = c >= 'a' && c <= 'z';
            due("relay" + c + "4 3;", isSpace || c == '0' ? 0 : isDigit ? RANGE : SYNTAX,
                    isSpace || c == '0' ? -1 : isLetter ? 0 : 5);
            due("relay 4" + c + "3;", isSpace ? 0 : isDigit ? RANGE : SYNTAX, isSpace ? -1 : isDigit ? 6 : 7);
            due("relay 4 3" + c + ";", isSpace ? 0 : isDigit ? RANGE : SYNTAX,
                    isSpace ? -1 : isDigit ? 8 : c == ';' ? 10 : 9);
            due("relay 4 3;" + c, isSpace ? 0 : SYNTAX, isSpace ? -1 : 10);
            due("relay 4 3;message 0 0 a" + c + "b;", isLetter ? 1 : SYNTAX,
                    isLetter ? -1 : isSpace || c == ';' ? 24 : 23);
        }
    }

    /** "an input buffer of at most 500 bytes": errors at its last byte and at its end. */
    private static void fullBuffer() {
        due("relay 4 3;" + " ".repeat(490), 0, -1);
        due("relay 4 3;" + " ".repeat(489) + "!", SYNTAX, 499);
        due("relay 4 3" + " ".repeat(491), SYNTAX, 500);
        due(" ".repeat(490) + "relay 4 3;", 0, -1);
        due(" ".repeat(491) + "relay 4 3", SYNTAX, 500);
        due(" ".repeat(500), SYNTAX, 500);
        due(" ".repeat(495) + "relay", SYNTAX, 500);
        due(" ".repeat(496) + "rela", SYNTAX, 496);
        due("relay " + "0".repeat(490) + "4 3;", 0, -1);
        due("relay 4" + "0".repeat(493), RANGE, 6);
        due("relay 4 " + "0".repeat(492), RANGE, 8);
        due("relay 4 3;message 0 0 " + "a".repeat(478), RANGE, 22);
        due(" ".repeat(478) + "relay 4 3;message 0 0a", SYNTAX, 500);
    }

    /** 2 channels, 8 keepers of each station, 12 mists and 8 messages in one text. */
    private static String everything() {
        StringBuilder text = new StringBuilder("relay 8 9;channel1 9 1 2;channel0 8 3 3;");
        for (int i = 7; i >= 0; i--) {
            text.append("keeper0 ").append(i).append(' ').append(i + 1).append(";keeper1 ").append(i).append(' ');
            text.append(9 - i).append(';');
        }
        for (int i = 0; i < 12; i++) {
            text.append("mist").append(i % 5).append(' ').append(i % 3 + 5).append(' ').append(i % 10).append(';');
        }
        for (int i = 0; i < 8; i++) {
            text.append("message").append(i % 2).append(' ').append(i).append((char) ('s' + i)).append(';');
        }
        return text.toString();
    }

    /** "At most 8 keepers of each station, 12 mists and 8 messages can be told; a channel can be told once." */
    private static void asMuchAsCanBeTold() {
        LampRelay relay = new LampRelay();
        String text = everything();
        Check.due("load of everything", 8, Check.load(relay, text + " ".repeat(500 - text.length())));
        Check.due("mists", 12, relay.state(10));
        for (int i = 0; i < 8; i++) {
            Check.due("key of 0", i + 1, relay.key(0, i));
            Check.due("key of 1", 9 - i, relay.key(1, i));
            Check.due("sender", i % 2, relay.message(i, 0));
            Check.due("urgency", i, relay.message(i, 1));
            Check.due("letter", 18 + i, relay.letter(i, 0, false));
        }
        int[] mists = {0, 1, 1, 1, 1, 1, 1, 1, 0};
        for (int tick = 0; tick < mists.length; tick++) {
            Check.due("mist(" + tick + ")", mists[tick], relay.mist(tick));
        }
        LampRelay last = Check.loaded("relay 4 3;" + "mist 0 99 9;".repeat(11) + "mist 5 6 1;");
        int[] dueOfLast = {9, 9, 9, 9, 9, 1, 1, 9};
        for (int tick = 0; tick < dueOfLast.length; tick++) {
            Check.due("the twelfth mist at " + tick, dueOfLast[tick], last.mist(tick));
        }
        Check.due("power", 8, relay.channel(0, 0));
        Check.due("power", 9, relay.channel(1, 0));
        Check.due("opening", 1, relay.channel(1, 1));
        Check.due("closing", 2, relay.channel(1, 2));
    }

    /** "The first error in the text is the one with the smallest offset." */
    private static void firstOfTwoErrors() {
        String before = "relay 4 3;channel 0 5 0 0;keeper 0 7 0;";
        String[] wrong = {"mist 0 0 10;", "mist 0 0 0 0;", "channel 0 5 0 0;", "keeper 0 7 0;", "keeper 0 7 26;",
            "message 0 0 abcdefghijklmnopqrstuvwxyz;", "message 0 0 5;", "mast 0 0 0;", ";", "message 5 0 a b;"};
        int[] codes = {RANGE, SYNTAX, REPEATED, REPEATED, REPEATED, RANGE, SYNTAX, SYNTAX, SYNTAX, RANGE};
        int[] offsets = {9, 11, 8, 9, 9, 12, 12, 0, 0, 8};
        for (int i = 0; i < wrong.length; i++) {
            for (String other : wrong) {
                due(before + wrong[i] + other, codes[i], before.length() + offsets[i]);
            }
        }
        due("relay 9 3;" + wrong[0], RANGE, 6);
        due("relay 4 10" + wrong[0], RANGE, 8);
        due("relay 9 10!", RANGE, 6);
        due("relay! 10", SYNTAX, 5);
    }

    /**
     * "a mist or a message beyond the maximum number, at the first letter of its statement; a keeper beyond it,
     * at the first digit of its station"; all that is wrong behind that place does not count.
     */
    private static void beyondWhatCanBeTold() {
        String before = everything();
        int at = before.length();
        for (String behind : new String[] {"0 0 0;", "0 0 0", "", "!", " 10000 0 0;", "5 4 10", ";"}) {
            due(before + "mist" + behind, MANY, at);
            due(before + "  mist " + behind, MANY, at + 2);
        }
        String tooLong = "0 0 abcdefghijklmnopqrstuvwxyz";
        for (String behind : new String[] {"0 0a;", "0 0a", "", "!", " 2 0 a;", tooLong, ";"}) {
            due(before + "message" + behind, MANY, at);
            due(before + " message " + behind, MANY, at + 1);
        }
        for (String behind : new String[] {"0 8 0;", "1 8 0;", "0 7 0;", "1 7 26;", "0", "1!", "01", "0 10000"}) {
            due(before + "keeper" + behind, MANY, at + 6);
            due(before + "keeper  " + behind, MANY, at + 8);
        }
        for (String behind : new String[] {"0 0 0 0;", "1 0 0 0;", "0", "1!", "01 10", "00000000000000000000000001"}) {
            due(before + "channel" + behind, REPEATED, at + 7);
        }
        due(before + "keeper 2", RANGE, at + 7);
        due(before + "keeper", SYNTAX, at + 6);
        due(before + "channel 2", RANGE, at + 8);
        due(before + "channel;", SYNTAX, at + 7);
        due(before + "mists", SYNTAX, at);
        due(before + "messag", SYNTAX, at);
    }

    /** "Before the first successful load the frame size is 4, the limit of tries 3, and there are no keepers ..." */
    private static void beforeTheFirstLoad() {
        LampRelay relay = new LampRelay();
        String view = Check.view(relay);
        Check.load(relay, "relay 2 2;channel 0 9 1 2;keeper 0 0 1;mist 0 0 1;message 0 0 a;!");
        Check.due("offset", 64, relay.errorOffset());
        Check.load(relay, "");
        Check.due("offset of an empty text", 0, relay.errorOffset());
        Check.due("frame size", 4, relay.state(11));
        Check.due("limit", 3, relay.state(12));
        Check.load(relay, "relay 2 2;channel 0 9 1 2;keeper 0 0 1;mist 0 0 1;message 0 0 a;");
        Check.due("undo of the first load", 0, relay.undo());
        Check.dueText("as a new object", view, Check.view(relay));
    }
}
