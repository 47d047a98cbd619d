/** Promises 3 and 4: load and errorOffset. */
final class LoadTest {
    private static final int SYNTAX = LampRelay.SYNTAX_ERROR;
    private static final int RANGE = LampRelay.OUT_OF_RANGE;
    private static final int REPEATED = LampRelay.REPEATED;
    private static final int MANY = LampRelay.TOO_MANY;

    private LoadTest() {
    }

    static void run() {
        lengths();
        allStatements();
        spacesAndRuns();
        syntaxErrors();
        otherBytes();
        relayRanges();
        channelErrors();
        keeperErrors();
        mistErrors();
        messageErrors();
        firstErrorCounts();
        errorChangesNothing();
        loadReplacesAll();
        loadBehindForecast();
        offsetStays();
    }

    private static void error(String text, int code, int offset) {
        LampRelay relay = new LampRelay();
        Check.due("load of '" + text + "'", code, Check.load(relay, text));
        Check.due("errorOffset of '" + text + "'", offset, relay.errorOffset());
    }

    private static void good(String text, int messages) {
        error(text, messages, -1);
    }

    private static void lengths() {
        LampRelay relay = new LampRelay();
        Check.feed(relay, "relay 4 3;message 0 0 a;");
        Check.dueThrow(relay, "load(-1)", IllegalArgumentException.class, () -> relay.load(-1));
        Check.dueThrow(relay, "load(41)", IllegalArgumentException.class, () -> relay.load(41));
        Check.dueThrow(relay, "load(least)", IllegalArgumentException.class, () -> relay.load(Integer.MIN_VALUE));
        Check.dueThrow(relay, "load(most)", IllegalArgumentException.class, () -> relay.load(Integer.MAX_VALUE));
        Check.due("the buffer stands", 1, relay.load(40));
        Check.dueThrow(relay, "the buffer is empty", IllegalArgumentException.class, () -> relay.load(1));
        Check.feed(relay, "relay 4 3;message 0 0 a;");
        Check.due("a part of the buffer", 0, relay.load(10));
        Check.dueThrow(relay, "the rest is gone", IllegalArgumentException.class, () -> relay.load(1));
        Check.feed(relay, "relay 4 3;");
        Check.due("no byte of it", SYNTAX, relay.load(0));
        Check.dueThrow(relay, "empty behind an error", IllegalArgumentException.class, () -> relay.load(1));
        Check.due("text that ends early", SYNTAX, loadFirst(relay, "relay 4 3;message 0 0 a;", 12));
        Check.due("at the first letter of the cut word", 10, relay.errorOffset());
    }

    private static int loadFirst(LampRelay relay, String text, int length) {
        Check.feed(relay, text);
        return relay.load(length);
    }

    private static void allStatements() {
        LampRelay relay = Check.loaded("relay 2 7;channel 1 8 3 9;keeper 0 5 11;keeper 1 9999 25;keeper 0 4 12;"
                + "mist 2 9999 6;mist 3 3 0;message 1 9 relay;message 0 0 channelkeepermistmessage;");
        Check.due("messages", 2, relay.state(1));
        Check.due("frame size", 2, relay.state(11));
        Check.due("limit", 7, relay.state(12));
        Check.due("mists", 2, relay.state(10));
        Check.due("power", 8, relay.channel(1, 0));
        Check.due("opening", 3, relay.channel(1, 1));
        Check.due("closing", 9, relay.channel(1, 2));
        Check.due("power of the channel that is not told", 5, relay.channel(0, 0));
        Check.due("key at 4", 12, relay.key(0, 4));
        Check.due("key at 5", 11, relay.key(0, 5));
        Check.due("key of the other at 9999", 25, relay.key(1, 9999));
        Check.due("mist at 2", 6, relay.mist(2));
        Check.due("mist at 3", 0, relay.mist(3));
        Check.dueText("first letters", "relay", Check.letters(relay, 0, false));
        Check.dueText("24 letters", "channelkeepermistmessage", Check.letters(relay, 1, false));
        Check.due("sender", 1, relay.message(0, 0));
        Check.due("urgency", 9, relay.message(0, 1));
    }

    private static void spacesAndRuns() {
        good("relay 4 3;", 0);
        good("relay4 3;", 0);
        good("  relay   4   3  ;  ", 0);
        good("relay 0004 00000000000000000000000000000003;", 0);
        good("relay 4 3;message0 0a;", 1);
        good("relay 4 3;message 0 0abcdefghijklmnopqrstuvwx;message1 9z ;", 2);
        good("relay 1 1;relay".substring(0, 10), 0);
        good("relay 8 9;keeper 0 0 0;channel 0 0 0 0;channel 1 9 23 23;mist 9999 9999 9;", 0);
    }

    private static void syntaxErrors() {
        error("", SYNTAX, 0);
        error("   ", SYNTAX, 3);
        error(";", SYNTAX, 0);
        error("relays 4 3;", SYNTAX, 0);
        error("delay 4 3;", SYNTAX, 0);
        error("relaz 4 3;", SYNTAX, 0);
        error("relay 4 3;list 0 0 0;", SYNTAX, 10);
        error("relay 4 3;massage 0 0 a;", SYNTAX, 10);
        error("relay 4 3;keepet 0 0 0;", SYNTAX, 10);
        error("relay 4 3;Channel 0 0 0 0;", SYNTAX, 10);
        error(" rela y 4 3;", SYNTAX, 1);
        error("relay", SYNTAX, 5);
        error("relay ", SYNTAX, 6);
        error("relay 4", SYNTAX, 7);
        error("relay 4 ;", SYNTAX, 8);
        error("relay 4 3", SYNTAX, 9);
        error("relay 4 3  ", SYNTAX, 11);
        error("relay 4 3 3;", SYNTAX, 10);
        error("relay 4;3;", SYNTAX, 7);
        error("relay x 3;", SYNTAX, 6);
        error("relay 4 3;;", SYNTAX, 10);
        error("relay 4 3; 5;", SYNTAX, 11);
        error("relay 4 3;relay 4 3;", SYNTAX, 10);
        error("relay 4 3; mists 0 0 0;", SYNTAX, 11);
        error("relay 4 3;mis", SYNTAX, 10);
        error("relay 4 3;mist 0 0", SYNTAX, 18);
        error("relay 4 3;mist 0 0 0", SYNTAX, 20);
        error("relay 4 3;mist 0 0 0 mist 0 0 0;", SYNTAX, 21);
        error("relay 4 3;mist 0 -1 0;", SYNTAX, 17);
        error("relay 4 3;message 0 0 ;", SYNTAX, 22);
        error("relay 4 3;message 0 0 5;", SYNTAX, 22);
        error("relay 4 3;message 0 0 abc d;", SYNTAX, 26);
        error("relay 4 3;message 0 a;", SYNTAX, 20);
        error("relay 4 3;keeper 0 0;", SYNTAX, 20);
        error("relay 4 3;channel 0 0 0;", SYNTAX, 23);
    }

    private static void otherBytes() {
        error("relay\t4 3;", SYNTAX, 5);
        error("Relay 4 3;", SYNTAX, 0);
        error("relay 4 3;message 0 0 aB;", SYNTAX, 23);
        error("relay 4 3;message 0 0 a{;", SYNTAX, 23);
        error("relay 4 3;message 0 0 a`;", SYNTAX, 23);
        error("relay 4/ 3;", SYNTAX, 7);
        error("relay 4: 3;", SYNTAX, 7);
        error("relay 4 3\n;", SYNTAX, 9);
        error("relay 4 3;" + (char) 0, SYNTAX, 10);
        error("relay 4 3;" + (char) 160, SYNTAX, 10);
        error("relay 4 3" + (char) 255 + ";", SYNTAX, 9);
        error("relay 4 3;message 0 0 " + (char) 225 + ";", SYNTAX, 22);
    }

    private static void relayRanges() {
        good("relay 1 1;", 0);
        good("relay 8 9;", 0);
        error("relay 0 1;", RANGE, 6);
        error("relay 9 1;", RANGE, 6);
        error("relay 1 0;", RANGE, 8);
        error("relay 1 10;", RANGE, 8);
        error("relay 4294967300 1;", RANGE, 6);
        error("relay 18446744073709551620 1;", RANGE, 6);
        error("relay 00009 1;", RANGE, 6);
    }

    private static void channelErrors() {
        error("relay 4 3;channel 2 0 0 0;", RANGE, 18);
        error("relay 4 3;channel 0 10 0 0;", RANGE, 20);
        error("relay 4 3;channel 0 9 24 0;", RANGE, 22);
        error("relay 4 3;channel 0 9 23 24;", RANGE, 25);
        error("relay 4 3;channel 0 9 0 0;channel 0 9 0 0;", REPEATED, 34);
        error("relay 4 3;channel 1 9 0 0;channel 0 5 0 0;channel 01 77", REPEATED, 50);
        error("relay 4 3;channel 0 9 0 0;channel 0", REPEATED, 34);
    }

    private static void keeperErrors() {
        error("relay 4 3;keeper 2 0 0;", RANGE, 17);
        error("relay 4 3;keeper 0 10000 0;", RANGE, 19);
        error("relay 4 3;keeper 0 0 26;", RANGE, 21);
        error("relay 4 3;keeper 0 5 1;keeper 0 5 1;", REPEATED, 32);
        error("relay 4 3;keeper 0 5 1;keeper 1 5 1;keeper 0 05", REPEATED, 45);
        good("relay 4 3;keeper 0 5 1;keeper 1 5 1;", 0);
        String eight = "relay 4 3;";
        for (int i = 0; i < 8; i++) {
            eight += "keeper 1 " + i + " 3;";
        }
        good(eight, 0);
        error(eight + "keeper 1 9 3;", MANY, eight.length() + 7);
        error(eight + "keeper 1 7 3;", MANY, eight.length() + 7);
        error(eight + "keeper 1", MANY, eight.length() + 7);
        error(eight + "keeper 2 9 3;", RANGE, eight.length() + 7);
        error(eight + "keeper x", SYNTAX, eight.length() + 7);
        good(eight + "keeper 0 7 3;", 0);
        LampRelay relay = new LampRelay();
        Check.load(relay, eight);
        Check.due("eight keepers", 3, relay.key(1, 7));
        Check.due("none of the other station", 0, relay.key(0, 7));
    }

    private static void mistErrors() {
        error("relay 4 3;mist 10000 10000 0;", RANGE, 15);
        error("relay 4 3;mist 0 10000 0;", RANGE, 17);
        error("relay 4 3;mist 5 4 0;", RANGE, 17);
        error("relay 4 3;mist 0 9999 10;", RANGE, 22);
        good("relay 4 3;mist 5 5 0;", 0);
        String twelve = "relay 4 3;";
        for (int i = 0; i < 12; i++) {
            twelve += "mist 0 9 " + i % 10 + ";";
        }
        good(twelve, 0);
        error(twelve + " mist 0 9 1;", MANY, twelve.length() + 1);
        error(twelve + "mist", MANY, twelve.length());
        error(twelve + "mistx", SYNTAX, twelve.length());
        good(twelve + "message 0 0 a;", 1);
    }

    private static void messageErrors() {
        error("relay 4 3;message 2 0 a;", RANGE, 18);
        error("relay 4 3;message 0 10 a;", RANGE, 20);
        error("relay 4 3;message 0 0 abcdefghijklmnopqrstuvwxy;", RANGE, 22);
        error("relay 4 3;message 0 0 abcdefghijklmnopqrstuvwxy5", RANGE, 22);
        good("relay 4 3;message 0 0 abcdefghijklmnopqrstuvwx;", 1);
        String eight = "relay 4 3;";
        for (int i = 0; i < 8; i++) {
            eight += "message 0 0 a;";
        }
        good(eight, 8);
        error(eight + " message 0 0 a;", MANY, eight.length() + 1);
        error(eight + "message", MANY, eight.length());
        error(eight + "messages", SYNTAX, eight.length());
        good(eight + "mist 0 0 0;", 8);
    }

    private static void firstErrorCounts() {
        error("relay 4 3;mist 9 8 10;;", RANGE, 17);
        error("relay 9 0;", RANGE, 6);
        error("relay 43;", RANGE, 6);
        error("relay 4 3;channel 0 1 1 1;channel 0 99 1 1 1", REPEATED, 34);
        error("relay 4 3;message 0 0 a,message 0 99 b;", SYNTAX, 23);
        error("relay 4 3;keeper 0 1 26;keeper 0 1 1;", RANGE, 21);
    }

    private static void errorChangesNothing() {
        LampRelay relay = Check.loaded("relay 2 2;channel 0 7 1 2;keeper 0 0 3;mist 0 9 4;message 0 1 abc;");
        relay.pass(3);
        long before = relay.checksum();
        Check.due("load with an error", SYNTAX,
                Check.load(relay, "relay 3 4;channel 0 1 3 4;keeper 0 0 9;mist 0 5 9;message 1 2 xyz;message"));
        Check.due("checksum behind an error", before, relay.checksum());
        Check.due("key behind an error", 3, relay.key(0, 5));
        Check.due("mist behind an error", 4, relay.mist(3));
        Check.due("letter behind an error", 2, relay.letter(0, 2, false));
        Check.due("an error is no change", 1, relay.undo());
    }

    private static void loadReplacesAll() {
        LampRelay relay = Check.loaded("relay 2 2;channel 0 7 3 3;keeper 0 0 3;mist 0 9 4;message 0 1 abc;");
        relay.pass(30);
        Check.due("a message is over", 1, relay.state(4));
        Check.due("load", 0, Check.load(relay, "relay 4 3;"));
        Check.due("all is as in a new object", new LampRelay().checksum(), relay.checksum());
        Check.due("no key", 0, relay.key(0, 5));
        Check.due("no mist", 0, relay.mist(3));
        Check.due("load", 1, Check.load(relay, "relay 4 3;message 1 0 xy;"));
        Check.dueText("log", "..", Check.letters(relay, 0, true));
        Check.due("start", -1, relay.message(0, 8));
        Check.due("tries", 0, relay.message(0, 7));
    }

    /** What was tried out for a forecast, or read before an error, must not come into a later setup. */
    private static void loadBehindForecast() {
        String text = "relay 3 1;message 0 2 abcdefgh;message 1 1 x;";
        long due = Check.loaded(text).checksum();
        LampRelay relay = Check.loaded("relay 1 3;channel 0 5 3 9;keeper 0 0 3;keeper 1 0 5;mist 2 9 7;mist 5 5 5;"
                + "message 0 9 abcdefgh;message 0 8 ijkl;");
        relay.foretold(0);
        relay.leastPower(1);
        Check.load(relay, "relay 2 9;channel 1 2 2 2;keeper 1 3 3;mist 0 0 1;message 0 5 zzz;message 1 5 z");
        relay.foretold(1);
        Check.due("load", 2, Check.load(relay, text));
        Check.due("checksum", due, relay.checksum());
        Check.due("key of 0", 0, relay.key(0, 20));
        Check.due("key of 1", 0, relay.key(1, 20));
        Check.due("over", 2, relay.pass(20));
        Check.due("agree", 2, relay.state(5));
        Check.due("tries", 0, relay.message(0, 7));
    }

    private static void offsetStays() {
        LampRelay relay = new LampRelay();
        Check.load(relay, "relay 4 x");
        Check.dueThrow("load(1)", IllegalArgumentException.class, () -> relay.load(1));
        Check.due("a load that throws leaves the offset", 8, relay.errorOffset());
        relay.pass(1);
        relay.undo();
        Check.due("so do other calls", 8, relay.errorOffset());
        Check.load(relay, "relay 4 3;");
        Check.due("a load without an error", -1, relay.errorOffset());
    }
}
