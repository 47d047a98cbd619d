/** Promise 16: pass, and what is done in a tick. */
final class TickTest {
    private static final String ALONE = "channel 0 3 0 0;channel 1 5 23 0;";

    private TickTest() {
    }

    static void run() {
        ranges();
        rightFrame();
        garbledNumber();
        garbledNumberOfAnotherFrame();
        garbledLetter();
        lostSymbols();
        garbledAnswer();
        lostAnswer();
        placesStayWritten();
        limitOfTries();
        keys();
        keysThatAreWrong();
        bothChannels();
        tryAgainWithSmallestFrame();
        closedInTheMiddle();
        powerInTheMiddle();
        severalMessages();
        lateFrames();
    }

    private static LampRelay alone(String mists, String letters) {
        return Check.loaded("relay 4 2;" + ALONE + mists + "message 0 0 " + letters + ";");
    }

    /** Ticks up to the end of the only message, its log, its reasons, its tries and the frames given up. */
    private static void course(String name, LampRelay relay, int end, String log, String reasons, int tries,
            int givenUp) {
        Check.due(name + ": not over before", 0, end == 0 ? 0 : relay.pass(end));
        Check.due(name + ": over", 1, relay.pass(1));
        Check.due(name + ": time of the end", end, relay.message(0, 9));
        Check.dueText(name + ": log", log, Check.letters(relay, 0, true));
        Check.dueText(name + ": reasons", reasons, Check.reasons(relay, 0));
        Check.due(name + ": tries", tries, relay.message(0, 7));
        Check.due(name + ": given up", givenUp, relay.state(9));
        Check.due(name + ": agree", reasons.replace("0", "").isEmpty() ? 1 : 0, relay.state(5));
        Check.due(name + ": channel idle", -1, relay.channel(0, 4));
    }

    private static void ranges() {
        LampRelay relay = alone("", "abcd");
        Check.dueThrow(relay, "pass(0)", IllegalArgumentException.class, () -> relay.pass(0));
        Check.dueThrow(relay, "pass(-1)", IllegalArgumentException.class, () -> relay.pass(-1));
        Check.dueThrow(relay, "pass(101)", IllegalArgumentException.class, () -> relay.pass(101));
        Check.due("pass(100)", 1, relay.pass(100));
        Check.due("time", 100, relay.state(0));
        Check.due("pass without a message", 0, relay.pass(1));
        Check.due("time", 101, relay.state(0));
        Check.due("nothing more is sent", 7, relay.state(6));
    }

    private static void rightFrame() {
        LampRelay relay = alone("mist 0 9999 2;", "abcd");
        for (int step = 1; step <= 6; step++) {
            relay.pass(1);
            Check.due("frame", 0, relay.channel(0, 4));
            Check.due("step", step, relay.channel(0, 5));
            Check.due("sent", step, relay.state(6));
            Check.dueText("log", step < 6 ? "...." : "abcd", Check.letters(relay, 0, true));
        }
        Check.due("over", 1, relay.pass(1));
        Check.due("sent", 7, relay.state(6));
        Check.due("agree", 1, relay.state(5));
    }

    private static void garbledNumber() {
        course("garbled number", alone("mist 0 0 3;", "abcd"), 13, "abcd", "0000", 1, 0);
        course("no such frame", alone("mist 0 0 3;mist 5 5 3;", "abcd"), 6, "....", "2222", 0, 0);
    }

    private static void garbledNumberOfAnotherFrame() {
        course("the next frame", alone("mist 0 0 3;mist 5 5 3;", "abcdefgh"), 13, "....abcd", "22223333", 0, 0);
        course("a short next frame", alone("mist 0 0 3;mist 5 5 3;", "abcdef"), 11, "....ab", "222233", 0, 0);
        course("the same letters", alone("mist 0 0 3;mist 5 5 3;", "abcdabc"), 12, "....abc", "2222000", 0, 0);
    }

    private static void garbledLetter() {
        course("garbled letter", alone("mist 1 1 3;", "abcd"), 13, "abcd", "0000", 1, 0);
        course("garbled check", alone("mist 5 5 3;", "abcd"), 13, "abcd", "0000", 1, 0);
        course("both", alone("mist 1 1 3;mist 5 5 3;", "abcd"), 6, "bbcd", "3000", 0, 0);
        course("z is followed by a", alone("mist 1 1 3;mist 5 5 3;", "zbcd"), 6, "abcd", "3000", 0, 0);
        course("the last letter", alone("mist 4 4 3;mist 5 5 3;", "abcd"), 6, "abce", "0003", 0, 0);
    }

    private static void lostSymbols() {
        for (int tick = 0; tick < 6; tick++) {
            LampRelay relay = alone("mist " + tick + " " + tick + " 4;", "aaaa");
            course("lost at " + tick, relay, 13, "aaaa", "0000", 1, 0);
            Check.due("lost", 1, relay.state(7));
            Check.due("garbled", 0, relay.state(8));
        }
    }

    private static void garbledAnswer() {
        LampRelay relay = alone("mist 6 6 3;", "abcd");
        relay.pass(7);
        Check.dueText("log of a yes that came as no", "abcd", Check.letters(relay, 0, true));
        Check.due("tries", 1, relay.message(0, 7));
        relay.undo();
        course("yes as no", relay, 13, "abcd", "0000", 1, 0);
        course("no as yes", alone("mist 1 1 3;mist 6 6 3;", "abcd"), 6, "....", "2222", 0, 0);
        course("no of a loss as yes", alone("mist 1 1 9;mist 6 6 3;", "abcd"), 6, "....", "2222", 0, 0);
    }

    private static void lostAnswer() {
        course("yes is lost", alone("mist 6 6 9;", "abcd"), 13, "abcd", "0000", 1, 0);
        course("no is lost", alone("mist 1 1 3;mist 6 6 9;", "abcd"), 13, "abcd", "0000", 1, 0);
    }

    private static void placesStayWritten() {
        course("written places stay", alone("mist 1 1 3;mist 5 5 3;mist 6 6 9;", "abcd"), 13, "bbcd", "3000", 1, 0);
    }

    private static void limitOfTries() {
        course("two tries", alone("mist 0 9999 9;", "abcd"), 13, "....", "2222", 2, 1);
        course("written, but given up", alone("mist 6 6 9;mist 13 13 9;", "abcd"), 13, "abcd", "0000", 2, 1);
        LampRelay two = alone("mist 0 13 9;", "abcdefgh");
        course("the second frame arrives", two, 20, "....efgh", "22220000", 2, 1);
        LampRelay one = Check.loaded("relay 4 1;" + ALONE + "mist 0 0 9;message 0 0 abcd;");
        course("one try", one, 6, "....", "2222", 1, 1);
    }

    private static void keys() {
        course("same keys", alone("keeper 0 2 5;keeper 1 2 5;", "abcd"), 6, "abcd", "0000", 0, 0);
        course("key of the receiver late", alone("keeper 0 2 5;keeper 1 3 5;", "abcd"), 13, "abcd", "0000", 1, 0);
        course("keys only for letters", alone("keeper 0 0 5;keeper 1 1 5;keeper 0 5 7;", "abcd"), 6, "abcd",
                "0000", 0, 0);
    }

    private static void keysThatAreWrong() {
        String setup = "relay 1 2;" + ALONE + "mist 2 2 3;";
        course("sender shifts", Check.loaded(setup + "keeper 0 0 1;message 0 0 a;"), 3, "b", "3", 0, 0);
        course("receiver shifts back", Check.loaded(setup + "keeper 1 0 25;message 0 0 z;"), 3, "a", "3", 0, 0);
        course("station 1 sends", Check.loaded(setup + "keeper 1 0 1;message 1 0 c;"), 3, "d", "3", 0, 0);
        course("station 0 receives", Check.loaded(setup + "keeper 0 0 25;message 1 0 c;"), 3, "d", "3", 0, 0);
        course("sum as before", Check.loaded("relay 2 1;" + ALONE + "keeper 0 0 13;message 0 0 ab;"), 4, "no", "33",
                0, 0);
    }

    private static void bothChannels() {
        LampRelay relay = Check.loaded("relay 4 2;message 0 0 abcdefghijkl;");
        relay.pass(1);
        Check.due("frame of channel 0", 0, relay.channel(0, 4));
        Check.due("frame of channel 1", 1, relay.channel(1, 4));
        relay.pass(7);
        Check.due("channel 0 takes the third", 2, relay.channel(0, 4));
        Check.due("channel 1 has nothing", -1, relay.channel(1, 4));
        Check.due("its step", -1, relay.channel(1, 5));
        Check.due("over", 1, relay.pass(6));
        Check.due("time of the end", 13, relay.message(0, 9));
        Check.due("sent", 21, relay.state(6));

        LampRelay byTheOther = Check.loaded("relay 4 2;message 0 0 abcdefgh;message 0 0 a;");
        Check.due("over by channel 1", 1, byTheOther.pass(7));
        Check.due("no message then", -1, byTheOther.state(2));
        byTheOther.pass(1);
        Check.due("the next starts a tick later", 7, byTheOther.message(1, 8));
    }

    private static void tryAgainWithSmallestFrame() {
        LampRelay relay = Check.loaded("relay 2 2;channel 0 3 0 0;channel 1 9 0 0;mist 0 0 4;message 0 0 abcdef;");
        relay.pass(5);
        relay.pass(1);
        Check.due("channel 0 takes frame 0 again", 0, relay.channel(0, 4));
        Check.due("channel 1 takes frame 2", 2, relay.channel(1, 4));
        LampRelay swapped = Check.loaded("relay 2 2;channel 0 3 0 0;channel 1 9 0 0;mist 0 0 4;message 0 0 abc;");
        swapped.pass(4);
        Check.due("channel 1 is ready", -1, swapped.channel(1, 4));
        swapped.pass(1);
        Check.due("channel 1 takes what channel 0 left open in this tick", 0, swapped.channel(1, 4));
        swapped.pass(1);
        Check.due("channel 0 has nothing", -1, swapped.channel(0, 4));
    }

    private static void closedInTheMiddle() {
        LampRelay relay = Check.loaded("relay 4 2;channel 0 5 0 2;channel 1 5 1 2;message 0 0 abcdef;");
        relay.pass(24);
        Check.due("channel 0 keeps its frame", 0, relay.channel(0, 4));
        Check.due("and its step", 2, relay.channel(0, 5));
        Check.due("channel 1 keeps its frame", 1, relay.channel(1, 4));
        Check.due("and its step", 1, relay.channel(1, 5));
        Check.due("sent in a day", 3, relay.state(6));
        Check.passAll(relay, 73);
        Check.due("over at last", 1, relay.state(3) + relay.state(4) + relay.channel(1, 4));
        Check.due("the step of channel 1 in the fifth day", 4, relay.channel(1, 5));
        Check.due("over", 1, relay.pass(1));
        Check.dueText("log", "abcdef", Check.letters(relay, 0, true));
        Check.due("time of the end", 97, relay.message(0, 9));
    }

    private static void powerInTheMiddle() {
        LampRelay relay = alone("mist 0 9999 3;", "abcd");
        relay.power(0, 4);
        relay.pass(1);
        relay.power(0, 3);
        relay.pass(1);
        Check.due("garbled", 1, relay.state(8));
        relay.power(0, 2);
        relay.pass(1);
        Check.due("lost", 1, relay.state(7));
        relay.fog(3, 3, 1);
        relay.pass(1);
        Check.due("right again", 4, relay.state(6) - relay.state(7) - relay.state(8) + 2);
    }

    private static void severalMessages() {
        LampRelay relay = Check.loaded("relay 1 1;message 0 1 a;message 1 2 b;message 0 1 c;");
        Check.due("over in 8 ticks", 2, relay.pass(8));
        int[][] due = {{4, 7}, {0, 3}, {-1, -1}};
        for (int i = 0; i < due.length; i++) {
            Check.due("start of " + i, due[i][0], relay.message(i, 8));
            Check.due("end of " + i, due[i][1], relay.message(i, 9));
        }
        Check.due("the rest", 1, relay.pass(100));
        Check.due("over", 3, relay.state(4));
        Check.due("agree", 3, relay.state(5));
        Check.due("sent", 12, relay.state(6));
    }

    private static void lateFrames() {
        LampRelay relay = Check.loaded("relay 1 1;message 0 0 abcdefghijklmnopqrstuvwx;");
        relay.pass(45);
        Check.due("frame 22", 22, relay.channel(0, 4));
        Check.due("frame 23", 23, relay.channel(1, 4));
        Check.due("over", 1, relay.pass(3));
        Check.dueText("log", "abcdefghijklmnopqrstuvwx", Check.letters(relay, 0, true));
    }
}
