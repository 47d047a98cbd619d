/** Promises 5 to 12 and 15: what is asked without letting ticks pass. */
final class AskTest {
    /** Channel 1 is closed in the hours 0 to 22, so that channel 0 works alone. */
    private static final String ALONE = "channel 0 3 0 0;channel 1 5 23 0;";

    private AskTest() {
    }

    static void run() {
        state();
        channel();
        openHours();
        message();
        messageThatIsCancelled();
        letter();
        why();
        mist();
        key();
        next();
        quality();
    }

    private static void figures(String of, int[] due, java.util.function.IntUnaryOperator asked) {
        for (int what = 0; what < due.length; what++) {
            Check.due(of + " " + what, due[what], asked.applyAsInt(what));
        }
    }

    private static void state() {
        LampRelay relay = Check.loaded("relay 4 1;" + ALONE + "mist 0 0 9;mist 7 7 3;mist 8 8 9;"
                + "message 0 5 abcd;message 1 7 ef;message 0 6 g;message 0 5 h;");
        figures("state at first", new int[] {0, 4, -1, 4, 0, 0, 0, 0, 0, 0, 3, 4, 1}, relay::state);
        relay.pass(1);
        figures("state at 1", new int[] {1, 4, 1, 3, 0, 0, 1, 1, 0, 0, 3, 4, 1}, relay::state);
        relay.pass(3);
        figures("state at 4", new int[] {4, 4, 1, 3, 0, 0, 4, 1, 0, 0, 3, 4, 1}, relay::state);
        relay.pass(1);
        figures("state at 5", new int[] {5, 4, -1, 3, 1, 0, 5, 1, 0, 1, 3, 4, 1}, relay::state);
        relay.pass(4);
        figures("state at 9", new int[] {9, 4, -1, 2, 2, 0, 9, 2, 1, 2, 3, 4, 1}, relay::state);
        relay.pass(7);
        figures("state at 16", new int[] {16, 4, -1, 1, 3, 1, 16, 2, 1, 2, 3, 4, 1}, relay::state);
        relay.cancel(3);
        figures("state at last", new int[] {16, 4, -1, 0, 3, 1, 16, 2, 1, 2, 3, 4, 1}, relay::state);
        Check.dueThrow(relay, "state(-1)", IllegalArgumentException.class, () -> relay.state(-1));
        Check.dueThrow(relay, "state(13)", IllegalArgumentException.class, () -> relay.state(13));
        Check.load(relay, "relay 1 1;");
        Check.due("symbols behind a load", 0, relay.state(6));
    }

    private static void channel() {
        LampRelay relay = Check.loaded("relay 2 2;channel 1 8 3 9;message 0 0 abcde;");
        figures("channel 0 at first", new int[] {5, 0, 0, 1, -1, -1}, what -> relay.channel(0, what));
        figures("channel 1 at first", new int[] {8, 3, 9, 0, -1, -1}, what -> relay.channel(1, what));
        relay.pass(4);
        figures("channel 0 at 4", new int[] {5, 0, 0, 1, 0, 4}, what -> relay.channel(0, what));
        figures("channel 1 at 4", new int[] {8, 3, 9, 1, 1, 1}, what -> relay.channel(1, what));
        relay.pass(1);
        Check.due("channel 0 behind its answer", -1, relay.channel(0, 4));
        Check.due("its step", -1, relay.channel(0, 5));
        relay.pass(1);
        Check.due("channel 0 takes the third frame", 2, relay.channel(0, 4));
        Check.due("its step", 1, relay.channel(0, 5));
        Check.dueThrow(relay, "channel(2, 0)", IndexOutOfBoundsException.class, () -> relay.channel(2, 0));
        Check.dueThrow(relay, "channel(-1, 0)", IndexOutOfBoundsException.class, () -> relay.channel(-1, 0));
        Check.dueThrow(relay, "channel(2, 6)", IndexOutOfBoundsException.class, () -> relay.channel(2, 6));
        Check.dueThrow(relay, "channel(0, 6)", IllegalArgumentException.class, () -> relay.channel(0, 6));
        Check.dueThrow(relay, "channel(1, -1)", IllegalArgumentException.class, () -> relay.channel(1, -1));
    }

    private static void openHours() {
        LampRelay relay = Check.loaded("relay 4 3;channel 0 5 6 18;channel 1 5 18 6;");
        LampRelay equal = Check.loaded("relay 4 3;channel 0 5 7 7;channel 1 5 23 0;");
        for (int time = 0; time < 50; time++) {
            int hour = time % 24;
            Check.due("6 to 18 at " + time, hour >= 6 && hour <= 17, relay.channel(0, 3) == 1);
            Check.due("18 to 6 at " + time, hour >= 18 || hour <= 5, relay.channel(1, 3) == 1);
            Check.due("7 to 7 at " + time, 1, equal.channel(0, 3));
            Check.due("23 to 0 at " + time, hour == 23, equal.channel(1, 3) == 1);
            relay.pass(1);
            equal.pass(1);
        }
    }

    private static void message() {
        LampRelay relay = Check.loaded("relay 2 3;" + ALONE + "mist 0 0 3;message 0 1 x;message 1 6 abcde;");
        figures("message at first", new int[] {1, 6, 5, 3, 0, 5, 0, 0, -1, -1}, what -> relay.message(1, what));
        relay.pass(5);
        figures("message at 5", new int[] {1, 6, 5, 3, 1, 5, 0, 1, 0, -1}, what -> relay.message(1, what));
        relay.pass(4);
        figures("message at 9", new int[] {1, 6, 5, 3, 1, 3, 0, 1, 0, -1}, what -> relay.message(1, what));
        relay.pass(10);
        figures("message at 19", new int[] {1, 6, 5, 3, 2, 0, 0, 1, 0, 18}, what -> relay.message(1, what));
        figures("the other", new int[] {0, 1, 1, 1, 0, 1, 0, 0, -1, -1}, what -> relay.message(0, what));
        relay.pass(1);
        Check.due("the other starts", 19, relay.message(0, 8));
        Check.dueThrow(relay, "message(2, 0)", IndexOutOfBoundsException.class, () -> relay.message(2, 0));
        Check.dueThrow(relay, "message(-1, 0)", IndexOutOfBoundsException.class, () -> relay.message(-1, 0));
        Check.dueThrow(relay, "message(2, 10)", IndexOutOfBoundsException.class, () -> relay.message(2, 10));
        Check.dueThrow(relay, "message(0, 10)", IllegalArgumentException.class, () -> relay.message(0, 10));
        Check.dueThrow(relay, "message(0, -1)", IllegalArgumentException.class, () -> relay.message(0, -1));

        LampRelay closed = Check.loaded("relay 2 3;channel 0 5 5 6;channel 1 5 5 6;message 0 0 a;");
        closed.pass(1);
        Check.due("starts with both channels closed", 0, closed.message(0, 8));
        Check.due("is on the way", 1, closed.message(0, 4));
        Check.due("nothing is sent", 0, closed.state(6));
    }

    private static void messageThatIsCancelled() {
        LampRelay relay = Check.loaded("relay 2 3;message 0 1 x;message 1 6 abcde;");
        relay.pass(2);
        relay.cancel(1);
        figures("cancelled on the way", new int[] {1, 6, 5, 3, 3, 5, 0, 0, 0, 2}, what -> relay.message(1, what));
        relay.cancel(0);
        figures("cancelled waiting", new int[] {0, 1, 1, 1, 3, 1, 0, 0, -1, 2}, what -> relay.message(0, what));
    }

    private static void letter() {
        LampRelay relay = Check.loaded("relay 2 2;" + ALONE + "mist 1 1 3;mist 3 3 3;message 0 0 azx;");
        Check.dueText("sender", "azx", Check.letters(relay, 0, false));
        Check.dueText("log at first", "...", Check.letters(relay, 0, true));
        relay.pass(3);
        Check.dueText("log before the check symbol", "...", Check.letters(relay, 0, true));
        relay.pass(1);
        Check.dueText("log behind it", "bz.", Check.letters(relay, 0, true));
        Check.dueText("sender as before", "azx", Check.letters(relay, 0, false));
        Check.due("a number of a letter", 25, relay.letter(0, 1, true));
        Check.due("an empty place", -1, relay.letter(0, 2, true));
        Check.dueThrow(relay, "letter(1, 0)", IndexOutOfBoundsException.class, () -> relay.letter(1, 0, false));
        Check.dueThrow(relay, "letter(-1, 0)", IndexOutOfBoundsException.class, () -> relay.letter(-1, 0, true));
        Check.dueThrow(relay, "letter(1, 9)", IndexOutOfBoundsException.class, () -> relay.letter(1, 9, true));
        Check.dueThrow(relay, "letter(0, 3)", java.util.NoSuchElementException.class,
                () -> relay.letter(0, 3, false));
        Check.dueThrow(relay, "letter(0, -1)", java.util.NoSuchElementException.class,
                () -> relay.letter(0, -1, true));
    }

    private static void why() {
        LampRelay relay = Check.loaded("relay 2 1;" + ALONE + "mist 1 1 3;mist 3 3 3;mist 5 5 9;"
                + "message 0 0 azxyb;");
        Check.dueText("waiting", "11111", Check.reasons(relay, 0));
        relay.pass(3);
        Check.dueText("in work", "11111", Check.reasons(relay, 0));
        relay.pass(1);
        Check.dueText("one wrong", "30111", Check.reasons(relay, 0));
        relay.pass(5);
        Check.dueText("before the second frame is given up", "30111", Check.reasons(relay, 0));
        relay.pass(1);
        Check.dueText("behind it", "30221", Check.reasons(relay, 0));
        relay.pass(4);
        Check.dueText("over", "30220", Check.reasons(relay, 0));
        Check.dueThrow(relay, "why(1, 0)", IndexOutOfBoundsException.class, () -> relay.why(1, 0));
        Check.dueThrow(relay, "why(-1, 0)", IndexOutOfBoundsException.class, () -> relay.why(-1, 0));
        Check.dueThrow(relay, "why(1, 9)", IndexOutOfBoundsException.class, () -> relay.why(1, 9));
        Check.dueThrow(relay, "why(0, 5)", java.util.NoSuchElementException.class, () -> relay.why(0, 5));
        Check.dueThrow(relay, "why(0, -1)", java.util.NoSuchElementException.class, () -> relay.why(0, -1));

        LampRelay done = Check.loaded("relay 2 1;" + ALONE + "mist 1 1 3;mist 4 4 3;message 0 0 az;");
        done.pass(5);
        Check.dueText("empty and done by a garbled answer", "22", Check.reasons(done, 0));

        LampRelay single = Check.loaded("relay 1 1;" + ALONE + "mist 4 4 9;message 0 0 abc;");
        single.pass(8);
        Check.dueText("frames of one letter", "021", Check.reasons(single, 0));

        LampRelay cancelled = Check.loaded("relay 2 1;" + ALONE + "mist 1 1 9;message 0 0 azxy;");
        cancelled.pass(7);
        cancelled.cancel(0);
        Check.dueText("cancelled: frames as they were", "2211", Check.reasons(cancelled, 0));
    }

    private static void mist() {
        LampRelay relay = Check.loaded("relay 2 1;mist 5 9 7;mist 7 9999 2;mist 8 8 0;mist 0 4 9;");
        int[][] due = {{0, 9}, {4, 9}, {5, 7}, {6, 7}, {7, 2}, {8, 0}, {9, 2}, {9999, 2}, {10000, 0}, {20000, 0}};
        for (int[] pair : due) {
            Check.due("mist(" + pair[0] + ")", pair[1], relay.mist(pair[0]));
        }
        Check.dueThrow(relay, "mist(-1)", IllegalArgumentException.class, () -> relay.mist(-1));
        Check.dueThrow(relay, "mist(20001)", IllegalArgumentException.class, () -> relay.mist(20001));
    }

    private static void key() {
        LampRelay relay = Check.loaded("relay 2 1;keeper 0 9 4;keeper 0 3 25;keeper 1 0 7;keeper 0 9999 1;");
        int[][] due = {{0, 0}, {2, 0}, {3, 25}, {8, 25}, {9, 4}, {9998, 4}, {9999, 1}, {20000, 1}};
        for (int[] pair : due) {
            Check.due("key(0, " + pair[0] + ")", pair[1], relay.key(0, pair[0]));
            Check.due("key(1, " + pair[0] + ")", 7, relay.key(1, pair[0]));
        }
        Check.dueThrow(relay, "key(2, 0)", IndexOutOfBoundsException.class, () -> relay.key(2, 0));
        Check.dueThrow(relay, "key(-1, -1)", IndexOutOfBoundsException.class, () -> relay.key(-1, -1));
        Check.dueThrow(relay, "key(0, -1)", IllegalArgumentException.class, () -> relay.key(0, -1));
        Check.dueThrow(relay, "key(1, 20001)", IllegalArgumentException.class, () -> relay.key(1, 20001));
    }

    private static void next() {
        LampRelay relay = Check.loaded("relay 8 1;message 0 3 a;message 1 5 b;message 0 3 c;message 0 9 d;"
                + "message 0 5 e;");
        int[] due = {3, 1, 4, 0, 2};
        for (int k = 0; k < due.length; k++) {
            Check.due("next(" + k + ")", due[k], relay.next(k));
        }
        Check.dueThrow(relay, "next(5)", java.util.NoSuchElementException.class, () -> relay.next(5));
        Check.dueThrow(relay, "next(-1)", java.util.NoSuchElementException.class, () -> relay.next(-1));
        relay.cancel(4);
        relay.pass(1);
        Check.due("on the way", 3, relay.state(2));
        Check.due("next(0) then", 1, relay.next(0));
        Check.due("next(1) then", 0, relay.next(1));
        Check.due("next(2) then", 2, relay.next(2));
        Check.dueThrow(relay, "next(3) then", java.util.NoSuchElementException.class, () -> relay.next(3));
        Check.due("a more urgent one", 5, Check.send(relay, 0, 9, "f"));
        Check.due("is next", 5, relay.next(0));
        relay.pass(1);
        Check.due("but does not interrupt", 3, relay.state(2));
        relay.pass(3);
        Check.due("starts behind it", 5, relay.state(2));
    }

    private static void quality() {
        LampRelay relay = Check.loaded("relay 4 2;" + ALONE + "mist 1 1 3;mist 2 2 9;mist 6 6 9;message 0 0 abcd;");
        Check.dueDouble("nothing sent", 0.0, relay.quality());
        relay.pass(1);
        Check.dueDouble("one right", 1.0, relay.quality());
        relay.pass(2);
        Check.dueDouble("one of three", 1.0 / 3.0, relay.quality());
        relay.pass(4);
        Check.dueDouble("four of seven", 4.0 / 7.0, relay.quality());
        LampRelay none = Check.loaded("relay 4 2;channel 0 0 0 0;message 0 0 a;");
        none.pass(1);
        Check.dueDouble("none of one", 0.0, none.quality());
    }
}
